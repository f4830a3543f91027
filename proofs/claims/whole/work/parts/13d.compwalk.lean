set_option maxHeartbeats 4000000 in
set_option maxRecDepth 100000 in
theorem wX10_become_w1_w0_209 {Γ : gT} {q : Nat → Nat} {r : Nat → Nat → Nat} {F : gF} (hF : gFz (g_E Γ) F) {o0 : Nat → Int32} {A0 : Nat → Nat → Int32} {C0 : Nat → Option Nat} {h0 : Nat} {o1 : Nat → Int32} {A1 : Nat → Nat → Int32} {C1 : Nat → Option Nat} {h1 : Nat} {o2 : Nat → Int32} {A2 : Nat → Nat → Int32} {C2 : Nat → Option Nat} {h2 : Nat} {gs0 : Int32} {gA : Nat → Nat → Int32} {tb0 : Int32} {tA0 bf0 : Nat → Int32} {hi0 : Int32} (K : gOK Γ cX10_become gU RX10) (hlt : ∀ i, i < 3 → i < g_n Γ) (hRm : g_R Γ = ({ frames := 4, cells := 0, slots := 0, locals := 150 } : Room)) {res : Int32 × Int32 × Int32 × Int32 × Int32 × Int32 × Int32 × Int32 × ((Nat → Int32)) × ((Nat → Int32)) × ((Nat → Int32)) × ((Nat → Int32)) × ((Nat → Int32)) × ((Nat → Int32)) × ((Nat → Int32)) × ((Nat → Int32)) × ((Nat → Int32)) × Nat × ((Nat → Option Nat))} (hret : ∀ (pc : Nat) (L : List (Nat × Value)) (w : va_W), decode cX10_become pc = .ok (.return_, 1) → (w = cw (g_E Γ) q r (gpl F) o0 A0 C0 h0 (gu (gu (gu (gu (gu (gu (gu (gu o1 0 res.1) 1 res.2.1) 2 res.2.2.1) 3 res.2.2.2.1) 4 res.2.2.2.2.1) 5 res.2.2.2.2.2.1) 6 res.2.2.2.2.2.2.1) 7 res.2.2.2.2.2.2.2.1) (gu (gu (gu (gu (gu (gu (gu (gu (gu A1 8 res.2.2.2.2.2.2.2.2.1) 9 res.2.2.2.2.2.2.2.2.2.1) 10 res.2.2.2.2.2.2.2.2.2.2.1) 11 res.2.2.2.2.2.2.2.2.2.2.2.1) 12 res.2.2.2.2.2.2.2.2.2.2.2.2.1) 14 res.2.2.2.2.2.2.2.2.2.2.2.2.2.1) 15 res.2.2.2.2.2.2.2.2.2.2.2.2.2.2.1) 16 res.2.2.2.2.2.2.2.2.2.2.2.2.2.2.2.1) 17 res.2.2.2.2.2.2.2.2.2.2.2.2.2.2.2.2.1) res.2.2.2.2.2.2.2.2.2.2.2.2.2.2.2.2.2.2 res.2.2.2.2.2.2.2.2.2.2.2.2.2.2.2.2.2.1 o2 A2 C2 h2 gs0 gA tb0 tA0 bf0 hi0) → gGO Γ 0 0 pc L [] w) : ∀ (n : Nat) (w1o0 : Int32) (w1o1 : Int32) (w1o2 : Int32) (w1o3 : Int32) (w1o4 : Int32) (w1o5 : Int32) (w1o6 : Int32) (w1o7 : Int32) (w1a8 : (Nat → Int32)) (w1a9 : (Nat → Int32)) (w1a10 : (Nat → Int32)) (w1a11 : (Nat → Int32)) (w1a12 : (Nat → Int32)) (w1a14 : (Nat → Int32)) (w1a15 : (Nat → Int32)) (w1a16 : (Nat → Int32)) (w1a17 : (Nat → Int32)) (w1h : Nat) (w1c : (Nat → Option Nat)) (x2 : Int32), pX10_become_w1_w0_209 F (o0 0) (o0 1) (o0 2) (o0 3) (o0 4) (o0 5) (o0 6) (o0 7) (A0 8) (A0 9) (A0 10) (A0 11) (A0 12) (A0 14) (A0 15) (A0 16) (A0 17) h0 C0 n w1o0 w1o1 w1o2 w1o3 w1o4 w1o5 w1o6 w1o7 w1a8 w1a9 w1a10 w1a11 w1a12 w1a14 w1a15 w1a16 w1a17 w1h w1c x2 = some res → gGO Γ 0 0 209 [(0, .ref (q 1)), (1, .ref (q 0)), (2, .int x2)] [] (cw (g_E Γ) q r (gpl F) o0 A0 C0 h0 (gu (gu (gu (gu (gu (gu (gu (gu o1 0 w1o0) 1 w1o1) 2 w1o2) 3 w1o3) 4 w1o4) 5 w1o5) 6 w1o6) 7 w1o7) (gu (gu (gu (gu (gu (gu (gu (gu (gu A1 8 w1a8) 9 w1a9) 10 w1a10) 11 w1a11) 12 w1a12) 14 w1a14) 15 w1a15) 16 w1a16) 17 w1a17) w1c w1h o2 A2 C2 h2 gs0 gA tb0 tA0 bf0 hi0) := by
  intro n
  induction n with
  | zero => intro _ _ _ _ _ _ _ _ _ _ _ _ _ _ _ _ _ _ _ _ h; cases h
  | succ n ih =>
    intro w1o0 w1o1 w1o2 w1o3 w1o4 w1o5 w1o6 w1o7 w1a8 w1a9 w1a10 w1a11 w1a12 w1a14 w1a15 w1a16 w1a17 w1h w1c x2 h
    simp only [pX10_become_w1_w0_209] at h
    refine g_iload_n K dX10_become_209 rfl 2 rfl ?_
    refine g_iconst (v := 4) K dX10_become_210 (by decide) ?_
    obtain ⟨ht9, hf9⟩ := gi_br h; clear h
    refine g_icmp_ge (tgt := 232) K dX10_become_211 (by decide) (fun qh => ?_) (fun qh => ?_)
    · have h := ht9 qh; clear ht9 hf9
      obtain rfl := Option.some.inj h
      exact hret _ _ _ dX10_become_232 rfl
    · have h := hf9 qh; clear ht9 hf9
      refine g_aload_n K dX10_become_214 rfl 0 rfl ?_
      refine g_get (v := .ref (r 1 13)) (T := TX10) (ref := "ChiefGrades$World") K hin_X10 2 rfl rfl 13 (by decide) u_191 (Or.inl rfl) rfl dX10_become_215 ?_
      refine g_iload_n K dX10_become_218 rfl 2 rfl ?_
      refine g_aload_n K dX10_become_219 rfl 1 rfl ?_
      refine g_get (v := .ref (r 0 13)) (T := TX10) (ref := "ChiefGrades$World") K hin_X10 1 rfl rfl 13 (by decide) u_191 (Or.inl rfl) rfl dX10_become_220 ?_
      refine g_iload_n K dX10_become_223 rfl 2 rfl ?_
      obtain ⟨b_1, h⟩ := gi_none h
      refine g_aald (f := C0) K 11 rfl (ginb_in b_1) dX10_become_224 ?_
      obtain ⟨b_2, h⟩ := gi_none h
      obtain ⟨b_3, h⟩ := gi_none h
      obtain ⟨f_4, ef_4, h⟩ := gi_nm h
      refine g_aast (f := w1c) (ws' := cw (g_E Γ) q r (gpl F) o0 A0 C0 h0 (gu (gu (gu (gu (gu (gu (gu (gu o1 0 w1o0) 1 w1o1) 2 w1o2) 3 w1o3) 4 w1o4) 5 w1o5) 6 w1o6) 7 w1o7) (gu (gu (gu (gu (gu (gu (gu (gu (gu A1 8 w1a8) 9 w1a9) 10 w1a10) 11 w1a11) 12 w1a12) 14 w1a14) 15 w1a15) 16 w1a16) 17 w1a17) f_4 w1h o2 A2 C2 h2 gs0 gA tb0 tA0 bf0 hi0) K hF 21 rfl (ginb_in b_2) b_3 dX10_become_225 (by rw [ef_4]; rfl) ?_
      refine g_iinc (v := (x2 + 1)) (L' := [(2, .int (x2 + 1)), (0, .ref (q 1)), (1, .ref (q 0))]) K dX10_become_226 2 rfl rfl (hlt _ (by decide)) rfl ?_
      refine g_goto (tgt := 209) K dX10_become_229 (by decide) ?_
      refine g_sub (L' := [(0, .ref (q 1)), (1, .ref (q 0)), (2, .int (x2 + 1))]) [1, 2, 0] rfl ?_
      exact ih w1o0 w1o1 w1o2 w1o3 w1o4 w1o5 w1o6 w1o7 w1a8 w1a9 w1a10 w1a11 w1a12 w1a14 w1a15 w1a16 w1a17 w1h f_4 (x2 + 1) h

set_option maxHeartbeats 4000000 in
set_option maxRecDepth 100000 in
theorem wX10_become_w1_w0 {Γ : gT} {q : Nat → Nat} {r : Nat → Nat → Nat} {F : gF} (hF : gFz (g_E Γ) F) {o0 : Nat → Int32} {A0 : Nat → Nat → Int32} {C0 : Nat → Option Nat} {h0 : Nat} {o1 : Nat → Int32} {A1 : Nat → Nat → Int32} {C1 : Nat → Option Nat} {h1 : Nat} {o2 : Nat → Int32} {A2 : Nat → Nat → Int32} {C2 : Nat → Option Nat} {h2 : Nat} {gs0 : Int32} {gA : Nat → Nat → Int32} {tb0 : Int32} {tA0 bf0 : Nat → Int32} {hi0 : Int32} (K : gOK Γ cX10_become gU RX10) (hlt : ∀ i, i < 3 → i < g_n Γ) (hRm : g_R Γ = ({ frames := 4, cells := 0, slots := 0, locals := 150 } : Room)) {res : Int32 × Int32 × Int32 × Int32 × Int32 × Int32 × Int32 × Int32 × ((Nat → Int32)) × ((Nat → Int32)) × ((Nat → Int32)) × ((Nat → Int32)) × ((Nat → Int32)) × ((Nat → Int32)) × ((Nat → Int32)) × ((Nat → Int32)) × ((Nat → Int32)) × Nat × ((Nat → Option Nat))} (hret : ∀ (pc : Nat) (L : List (Nat × Value)) (w : va_W), decode cX10_become pc = .ok (.return_, 1) → (w = cw (g_E Γ) q r (gpl F) o0 A0 C0 h0 (gu (gu (gu (gu (gu (gu (gu (gu o1 0 res.1) 1 res.2.1) 2 res.2.2.1) 3 res.2.2.2.1) 4 res.2.2.2.2.1) 5 res.2.2.2.2.2.1) 6 res.2.2.2.2.2.2.1) 7 res.2.2.2.2.2.2.2.1) (gu (gu (gu (gu (gu (gu (gu (gu (gu A1 8 res.2.2.2.2.2.2.2.2.1) 9 res.2.2.2.2.2.2.2.2.2.1) 10 res.2.2.2.2.2.2.2.2.2.2.1) 11 res.2.2.2.2.2.2.2.2.2.2.2.1) 12 res.2.2.2.2.2.2.2.2.2.2.2.2.1) 14 res.2.2.2.2.2.2.2.2.2.2.2.2.2.1) 15 res.2.2.2.2.2.2.2.2.2.2.2.2.2.2.1) 16 res.2.2.2.2.2.2.2.2.2.2.2.2.2.2.2.1) 17 res.2.2.2.2.2.2.2.2.2.2.2.2.2.2.2.2.1) res.2.2.2.2.2.2.2.2.2.2.2.2.2.2.2.2.2.2 res.2.2.2.2.2.2.2.2.2.2.2.2.2.2.2.2.2.1 o2 A2 C2 h2 gs0 gA tb0 tA0 bf0 hi0) → gGO Γ 0 0 pc L [] w) (w1o0 : Int32) (w1o1 : Int32) (w1o2 : Int32) (w1o3 : Int32) (w1o4 : Int32) (w1o5 : Int32) (w1o6 : Int32) (w1o7 : Int32) (w1a8 : (Nat → Int32)) (w1a9 : (Nat → Int32)) (w1a10 : (Nat → Int32)) (w1a11 : (Nat → Int32)) (w1a12 : (Nat → Int32)) (w1a14 : (Nat → Int32)) (w1a15 : (Nat → Int32)) (w1a16 : (Nat → Int32)) (w1a17 : (Nat → Int32)) (w1h : Nat) (w1c : (Nat → Option Nat)) (h : pX10_become_w1_w0 F (o0 0) (o0 1) (o0 2) (o0 3) (o0 4) (o0 5) (o0 6) (o0 7) (A0 8) (A0 9) (A0 10) (A0 11) (A0 12) (A0 14) (A0 15) (A0 16) (A0 17) h0 C0 w1o0 w1o1 w1o2 w1o3 w1o4 w1o5 w1o6 w1o7 w1a8 w1a9 w1a10 w1a11 w1a12 w1a14 w1a15 w1a16 w1a17 w1h w1c = some res) : gGO Γ 0 0 0 [(0, .ref (q 1)), (1, .ref (q 0))] [] (cw (g_E Γ) q r (gpl F) o0 A0 C0 h0 (gu (gu (gu (gu (gu (gu (gu (gu o1 0 w1o0) 1 w1o1) 2 w1o2) 3 w1o3) 4 w1o4) 5 w1o5) 6 w1o6) 7 w1o7) (gu (gu (gu (gu (gu (gu (gu (gu (gu A1 8 w1a8) 9 w1a9) 10 w1a10) 11 w1a11) 12 w1a12) 14 w1a14) 15 w1a15) 16 w1a16) 17 w1a17) w1c w1h o2 A2 C2 h2 gs0 gA tb0 tA0 bf0 hi0) := by
    unfold pX10_become_w1_w0 at h
    refine g_aload_n K dX10_become_0 rfl 0 rfl ?_
    refine g_aload_n K dX10_become_1 rfl 1 rfl ?_
    refine g_get (v := .int (o0 0)) (T := TX10) (ref := "ChiefGrades$World") K hin_X10 1 rfl rfl 0 (by decide) u_158 (Or.inl rfl) rfl dX10_become_2 ?_
    refine g_put (v := .int (o0 0)) (ws' := cw (g_E Γ) q r (gpl F) o0 A0 C0 h0 (gu (gu (gu (gu (gu (gu (gu (gu o1 0 (o0 0)) 1 w1o1) 2 w1o2) 3 w1o3) 4 w1o4) 5 w1o5) 6 w1o6) 7 w1o7) (gu (gu (gu (gu (gu (gu (gu (gu (gu A1 8 w1a8) 9 w1a9) 10 w1a10) 11 w1a11) 12 w1a12) 14 w1a14) 15 w1a15) 16 w1a16) 17 w1a17) w1c w1h o2 A2 C2 h2 gs0 gA tb0 tA0 bf0 hi0) (T := TX10) (ref := "ChiefGrades$World") (ty := .int) K hin_X10 tyX10_ok nmX10 2 rfl rfl 0 (by decide) u_158 rfl rfl (by decide +kernel) rfl rfl (Nat.le_of_ble_eq_true rfl) dX10_become_5 rfl ?_
    refine g_aload_n K dX10_become_8 rfl 0 rfl ?_
    refine g_aload_n K dX10_become_9 rfl 1 rfl ?_
    refine g_get (v := .int (o0 1)) (T := TX10) (ref := "ChiefGrades$World") K hin_X10 1 rfl rfl 1 (by decide) u_161 (Or.inl rfl) rfl dX10_become_10 ?_
    refine g_put (v := .int (o0 1)) (ws' := cw (g_E Γ) q r (gpl F) o0 A0 C0 h0 (gu (gu (gu (gu (gu (gu (gu (gu o1 0 (o0 0)) 1 (o0 1)) 2 w1o2) 3 w1o3) 4 w1o4) 5 w1o5) 6 w1o6) 7 w1o7) (gu (gu (gu (gu (gu (gu (gu (gu (gu A1 8 w1a8) 9 w1a9) 10 w1a10) 11 w1a11) 12 w1a12) 14 w1a14) 15 w1a15) 16 w1a16) 17 w1a17) w1c w1h o2 A2 C2 h2 gs0 gA tb0 tA0 bf0 hi0) (T := TX10) (ref := "ChiefGrades$World") (ty := .int) K hin_X10 tyX10_ok nmX10 2 rfl rfl 1 (by decide) u_161 rfl rfl (by decide +kernel) rfl rfl (Nat.le_of_ble_eq_true rfl) dX10_become_13 rfl ?_
    refine g_aload_n K dX10_become_16 rfl 0 rfl ?_
    refine g_aload_n K dX10_become_17 rfl 1 rfl ?_
    refine g_get (v := .int (o0 2)) (T := TX10) (ref := "ChiefGrades$World") K hin_X10 1 rfl rfl 2 (by decide) u_164 (Or.inl rfl) rfl dX10_become_18 ?_
    refine g_put (v := .int (o0 2)) (ws' := cw (g_E Γ) q r (gpl F) o0 A0 C0 h0 (gu (gu (gu (gu (gu (gu (gu (gu o1 0 (o0 0)) 1 (o0 1)) 2 (o0 2)) 3 w1o3) 4 w1o4) 5 w1o5) 6 w1o6) 7 w1o7) (gu (gu (gu (gu (gu (gu (gu (gu (gu A1 8 w1a8) 9 w1a9) 10 w1a10) 11 w1a11) 12 w1a12) 14 w1a14) 15 w1a15) 16 w1a16) 17 w1a17) w1c w1h o2 A2 C2 h2 gs0 gA tb0 tA0 bf0 hi0) (T := TX10) (ref := "ChiefGrades$World") (ty := .int) K hin_X10 tyX10_ok nmX10 2 rfl rfl 2 (by decide) u_164 rfl rfl (by decide +kernel) rfl rfl (Nat.le_of_ble_eq_true rfl) dX10_become_21 rfl ?_
    refine g_aload_n K dX10_become_24 rfl 0 rfl ?_
    refine g_aload_n K dX10_become_25 rfl 1 rfl ?_
    refine g_get (v := .int (o0 3)) (T := TX10) (ref := "ChiefGrades$World") K hin_X10 1 rfl rfl 3 (by decide) u_166 (Or.inl rfl) rfl dX10_become_26 ?_
    refine g_put (v := .int (o0 3)) (ws' := cw (g_E Γ) q r (gpl F) o0 A0 C0 h0 (gu (gu (gu (gu (gu (gu (gu (gu o1 0 (o0 0)) 1 (o0 1)) 2 (o0 2)) 3 (o0 3)) 4 w1o4) 5 w1o5) 6 w1o6) 7 w1o7) (gu (gu (gu (gu (gu (gu (gu (gu (gu A1 8 w1a8) 9 w1a9) 10 w1a10) 11 w1a11) 12 w1a12) 14 w1a14) 15 w1a15) 16 w1a16) 17 w1a17) w1c w1h o2 A2 C2 h2 gs0 gA tb0 tA0 bf0 hi0) (T := TX10) (ref := "ChiefGrades$World") (ty := .int) K hin_X10 tyX10_ok nmX10 2 rfl rfl 3 (by decide) u_166 rfl rfl (by decide +kernel) rfl rfl (Nat.le_of_ble_eq_true rfl) dX10_become_29 rfl ?_
    refine g_aload_n K dX10_become_32 rfl 0 rfl ?_
    refine g_aload_n K dX10_become_33 rfl 1 rfl ?_
    refine g_get (v := .int (o0 4)) (T := TX10) (ref := "ChiefGrades$World") K hin_X10 1 rfl rfl 4 (by decide) u_169 (Or.inl rfl) rfl dX10_become_34 ?_
    refine g_put (v := .int (o0 4)) (ws' := cw (g_E Γ) q r (gpl F) o0 A0 C0 h0 (gu (gu (gu (gu (gu (gu (gu (gu o1 0 (o0 0)) 1 (o0 1)) 2 (o0 2)) 3 (o0 3)) 4 (o0 4)) 5 w1o5) 6 w1o6) 7 w1o7) (gu (gu (gu (gu (gu (gu (gu (gu (gu A1 8 w1a8) 9 w1a9) 10 w1a10) 11 w1a11) 12 w1a12) 14 w1a14) 15 w1a15) 16 w1a16) 17 w1a17) w1c w1h o2 A2 C2 h2 gs0 gA tb0 tA0 bf0 hi0) (T := TX10) (ref := "ChiefGrades$World") (ty := .int) K hin_X10 tyX10_ok nmX10 2 rfl rfl 4 (by decide) u_169 rfl rfl (by decide +kernel) rfl rfl (Nat.le_of_ble_eq_true rfl) dX10_become_37 rfl ?_
    refine g_aload_n K dX10_become_40 rfl 0 rfl ?_
    refine g_aload_n K dX10_become_41 rfl 1 rfl ?_
    refine g_get (v := .int (o0 5)) (T := TX10) (ref := "ChiefGrades$World") K hin_X10 1 rfl rfl 5 (by decide) u_170 (Or.inl rfl) rfl dX10_become_42 ?_
    refine g_put (v := .int (o0 5)) (ws' := cw (g_E Γ) q r (gpl F) o0 A0 C0 h0 (gu (gu (gu (gu (gu (gu (gu (gu o1 0 (o0 0)) 1 (o0 1)) 2 (o0 2)) 3 (o0 3)) 4 (o0 4)) 5 (o0 5)) 6 w1o6) 7 w1o7) (gu (gu (gu (gu (gu (gu (gu (gu (gu A1 8 w1a8) 9 w1a9) 10 w1a10) 11 w1a11) 12 w1a12) 14 w1a14) 15 w1a15) 16 w1a16) 17 w1a17) w1c w1h o2 A2 C2 h2 gs0 gA tb0 tA0 bf0 hi0) (T := TX10) (ref := "ChiefGrades$World") (ty := .int) K hin_X10 tyX10_ok nmX10 2 rfl rfl 5 (by decide) u_170 rfl rfl (by decide +kernel) rfl rfl (Nat.le_of_ble_eq_true rfl) dX10_become_45 rfl ?_
    refine g_aload_n K dX10_become_48 rfl 0 rfl ?_
    refine g_aload_n K dX10_become_49 rfl 1 rfl ?_
    refine g_get (v := .int (o0 6)) (T := TX10) (ref := "ChiefGrades$World") K hin_X10 1 rfl rfl 6 (by decide) u_173 (Or.inl rfl) rfl dX10_become_50 ?_
    refine g_put (v := .int (o0 6)) (ws' := cw (g_E Γ) q r (gpl F) o0 A0 C0 h0 (gu (gu (gu (gu (gu (gu (gu (gu o1 0 (o0 0)) 1 (o0 1)) 2 (o0 2)) 3 (o0 3)) 4 (o0 4)) 5 (o0 5)) 6 (o0 6)) 7 w1o7) (gu (gu (gu (gu (gu (gu (gu (gu (gu A1 8 w1a8) 9 w1a9) 10 w1a10) 11 w1a11) 12 w1a12) 14 w1a14) 15 w1a15) 16 w1a16) 17 w1a17) w1c w1h o2 A2 C2 h2 gs0 gA tb0 tA0 bf0 hi0) (T := TX10) (ref := "ChiefGrades$World") (ty := .int) K hin_X10 tyX10_ok nmX10 2 rfl rfl 6 (by decide) u_173 rfl rfl (by decide +kernel) rfl rfl (Nat.le_of_ble_eq_true rfl) dX10_become_53 rfl ?_
    refine g_aload_n K dX10_become_56 rfl 0 rfl ?_
    refine g_aload_n K dX10_become_57 rfl 1 rfl ?_
    refine g_get (v := .int (o0 7)) (T := TX10) (ref := "ChiefGrades$World") K hin_X10 1 rfl rfl 7 (by decide) u_175 (Or.inl rfl) rfl dX10_become_58 ?_
    refine g_put (v := .int (o0 7)) (ws' := cw (g_E Γ) q r (gpl F) o0 A0 C0 h0 (gu (gu (gu (gu (gu (gu (gu (gu o1 0 (o0 0)) 1 (o0 1)) 2 (o0 2)) 3 (o0 3)) 4 (o0 4)) 5 (o0 5)) 6 (o0 6)) 7 (o0 7)) (gu (gu (gu (gu (gu (gu (gu (gu (gu A1 8 w1a8) 9 w1a9) 10 w1a10) 11 w1a11) 12 w1a12) 14 w1a14) 15 w1a15) 16 w1a16) 17 w1a17) w1c w1h o2 A2 C2 h2 gs0 gA tb0 tA0 bf0 hi0) (T := TX10) (ref := "ChiefGrades$World") (ty := .int) K hin_X10 tyX10_ok nmX10 2 rfl rfl 7 (by decide) u_175 rfl rfl (by decide +kernel) rfl rfl (Nat.le_of_ble_eq_true rfl) dX10_become_61 rfl ?_
    refine g_aload_n K dX10_become_64 rfl 0 rfl ?_
    refine g_aload_n K dX10_become_65 rfl 1 rfl ?_
    refine g_get (v := .ref h0) (T := TX10) (ref := "ChiefGrades$World") K hin_X10 1 rfl rfl 18 (by decide) u_201 (Or.inl rfl) rfl dX10_become_66 ?_
    refine g_put (v := .ref h0) (ws' := cw (g_E Γ) q r (gpl F) o0 A0 C0 h0 (gu (gu (gu (gu (gu (gu (gu (gu o1 0 (o0 0)) 1 (o0 1)) 2 (o0 2)) 3 (o0 3)) 4 (o0 4)) 5 (o0 5)) 6 (o0 6)) 7 (o0 7)) (gu (gu (gu (gu (gu (gu (gu (gu (gu A1 8 w1a8) 9 w1a9) 10 w1a10) 11 w1a11) 12 w1a12) 14 w1a14) 15 w1a15) 16 w1a16) 17 w1a17) w1c h0 o2 A2 C2 h2 gs0 gA tb0 tA0 bf0 hi0) (T := TX10) (ref := "ChiefGrades$World") (ty := (.object "ChiefGrades$House")) K hin_X10 tyX10_ok nmX10 2 rfl rfl 18 (by decide) u_201 rfl rfl (by decide +kernel) rfl rfl (Nat.le_of_ble_eq_true rfl) dX10_become_69 rfl ?_
    refine g_aload_n K dX10_become_72 rfl 1 rfl ?_
    refine g_get (v := .ref (r 0 8)) (T := TX10) (ref := "ChiefGrades$World") K hin_X10 1 rfl rfl 8 (by decide) u_177 (Or.inl rfl) rfl dX10_become_73 ?_
    refine g_iconst (v := 0) K dX10_become_76 (by decide) ?_
    refine g_aload_n K dX10_become_77 rfl 0 rfl ?_
    refine g_get (v := .ref (r 1 8)) (T := TX10) (ref := "ChiefGrades$World") K hin_X10 2 rfl rfl 8 (by decide) u_177 (Or.inl rfl) rfl dX10_become_78 ?_
    refine g_iconst (v := 0) K dX10_become_81 (by decide) ?_
    refine g_bipush (v := 10) K dX10_become_82 (by decide) ?_
    obtain ⟨f_1, ef_1, h⟩ := gi_nm h
    refine g_copy (f := (A0 8)) (g := w1a8) (n := 10) (ws' := cw (g_E Γ) q r (gpl F) o0 A0 C0 h0 (gu (gu (gu (gu (gu (gu (gu (gu o1 0 (o0 0)) 1 (o0 1)) 2 (o0 2)) 3 (o0 3)) 4 (o0 4)) 5 (o0 5)) 6 (o0 6)) 7 (o0 7)) (gu (gu (gu (gu (gu (gu (gu (gu (gu A1 8 f_1) 9 w1a9) 10 w1a10) 11 w1a11) 12 w1a12) 14 w1a14) 15 w1a15) 16 w1a16) 17 w1a17) w1c h0 o2 A2 C2 h2 gs0 gA tb0 tA0 bf0 hi0) K 6 16 rfl rfl 0 rfl rfl (by decide) (by decide) (by decide) (by decide) (fun _ _ => rfl) u_765 u_748 u_747 u_88 hRm ⟨by decide, Nat.le_of_ble_eq_true rfl⟩ dX10_become_84 (by rw [ef_1]; rfl) ?_
    refine g_aload_n K dX10_become_87 rfl 1 rfl ?_
    refine g_get (v := .ref (r 0 9)) (T := TX10) (ref := "ChiefGrades$World") K hin_X10 1 rfl rfl 9 (by decide) u_180 (Or.inl rfl) rfl dX10_become_88 ?_
    refine g_iconst (v := 0) K dX10_become_91 (by decide) ?_
    refine g_aload_n K dX10_become_92 rfl 0 rfl ?_
    refine g_get (v := .ref (r 1 9)) (T := TX10) (ref := "ChiefGrades$World") K hin_X10 2 rfl rfl 9 (by decide) u_180 (Or.inl rfl) rfl dX10_become_93 ?_
    refine g_iconst (v := 0) K dX10_become_96 (by decide) ?_
    refine g_bipush (v := 10) K dX10_become_97 (by decide) ?_
    obtain ⟨f_2, ef_2, h⟩ := gi_nm h
    refine g_copy (f := (A0 9)) (g := w1a9) (n := 10) (ws' := cw (g_E Γ) q r (gpl F) o0 A0 C0 h0 (gu (gu (gu (gu (gu (gu (gu (gu o1 0 (o0 0)) 1 (o0 1)) 2 (o0 2)) 3 (o0 3)) 4 (o0 4)) 5 (o0 5)) 6 (o0 6)) 7 (o0 7)) (gu (gu (gu (gu (gu (gu (gu (gu (gu A1 8 f_1) 9 f_2) 10 w1a10) 11 w1a11) 12 w1a12) 14 w1a14) 15 w1a15) 16 w1a16) 17 w1a17) w1c h0 o2 A2 C2 h2 gs0 gA tb0 tA0 bf0 hi0) K 7 17 rfl rfl 0 rfl rfl (by decide) (by decide) (by decide) (by decide) (fun _ _ => rfl) u_765 u_748 u_747 u_88 hRm ⟨by decide, Nat.le_of_ble_eq_true rfl⟩ dX10_become_99 (by rw [ef_2]; rfl) ?_
    refine g_aload_n K dX10_become_102 rfl 1 rfl ?_
    refine g_get (v := .ref (r 0 10)) (T := TX10) (ref := "ChiefGrades$World") K hin_X10 1 rfl rfl 10 (by decide) u_183 (Or.inl rfl) rfl dX10_become_103 ?_
    refine g_iconst (v := 0) K dX10_become_106 (by decide) ?_
    refine g_aload_n K dX10_become_107 rfl 0 rfl ?_
    refine g_get (v := .ref (r 1 10)) (T := TX10) (ref := "ChiefGrades$World") K hin_X10 2 rfl rfl 10 (by decide) u_183 (Or.inl rfl) rfl dX10_become_108 ?_
    refine g_iconst (v := 0) K dX10_become_111 (by decide) ?_
    refine g_bipush (v := 10) K dX10_become_112 (by decide) ?_
    obtain ⟨f_3, ef_3, h⟩ := gi_nm h
    refine g_copy (f := (A0 10)) (g := w1a10) (n := 10) (ws' := cw (g_E Γ) q r (gpl F) o0 A0 C0 h0 (gu (gu (gu (gu (gu (gu (gu (gu o1 0 (o0 0)) 1 (o0 1)) 2 (o0 2)) 3 (o0 3)) 4 (o0 4)) 5 (o0 5)) 6 (o0 6)) 7 (o0 7)) (gu (gu (gu (gu (gu (gu (gu (gu (gu A1 8 f_1) 9 f_2) 10 f_3) 11 w1a11) 12 w1a12) 14 w1a14) 15 w1a15) 16 w1a16) 17 w1a17) w1c h0 o2 A2 C2 h2 gs0 gA tb0 tA0 bf0 hi0) K 8 18 rfl rfl 0 rfl rfl (by decide) (by decide) (by decide) (by decide) (fun _ _ => rfl) u_765 u_748 u_747 u_88 hRm ⟨by decide, Nat.le_of_ble_eq_true rfl⟩ dX10_become_114 (by rw [ef_3]; rfl) ?_
    refine g_aload_n K dX10_become_117 rfl 1 rfl ?_
    refine g_get (v := .ref (r 0 11)) (T := TX10) (ref := "ChiefGrades$World") K hin_X10 1 rfl rfl 11 (by decide) u_186 (Or.inl rfl) rfl dX10_become_118 ?_
    refine g_iconst (v := 0) K dX10_become_121 (by decide) ?_
    refine g_aload_n K dX10_become_122 rfl 0 rfl ?_
    refine g_get (v := .ref (r 1 11)) (T := TX10) (ref := "ChiefGrades$World") K hin_X10 2 rfl rfl 11 (by decide) u_186 (Or.inl rfl) rfl dX10_become_123 ?_
    refine g_iconst (v := 0) K dX10_become_126 (by decide) ?_
    refine g_bipush (v := 10) K dX10_become_127 (by decide) ?_
    obtain ⟨f_4, ef_4, h⟩ := gi_nm h
    refine g_copy (f := (A0 11)) (g := w1a11) (n := 10) (ws' := cw (g_E Γ) q r (gpl F) o0 A0 C0 h0 (gu (gu (gu (gu (gu (gu (gu (gu o1 0 (o0 0)) 1 (o0 1)) 2 (o0 2)) 3 (o0 3)) 4 (o0 4)) 5 (o0 5)) 6 (o0 6)) 7 (o0 7)) (gu (gu (gu (gu (gu (gu (gu (gu (gu A1 8 f_1) 9 f_2) 10 f_3) 11 f_4) 12 w1a12) 14 w1a14) 15 w1a15) 16 w1a16) 17 w1a17) w1c h0 o2 A2 C2 h2 gs0 gA tb0 tA0 bf0 hi0) K 9 19 rfl rfl 0 rfl rfl (by decide) (by decide) (by decide) (by decide) (fun _ _ => rfl) u_765 u_748 u_747 u_88 hRm ⟨by decide, Nat.le_of_ble_eq_true rfl⟩ dX10_become_129 (by rw [ef_4]; rfl) ?_
    refine g_aload_n K dX10_become_132 rfl 1 rfl ?_
    refine g_get (v := .ref (r 0 12)) (T := TX10) (ref := "ChiefGrades$World") K hin_X10 1 rfl rfl 12 (by decide) u_189 (Or.inl rfl) rfl dX10_become_133 ?_
    refine g_iconst (v := 0) K dX10_become_136 (by decide) ?_
    refine g_aload_n K dX10_become_137 rfl 0 rfl ?_
    refine g_get (v := .ref (r 1 12)) (T := TX10) (ref := "ChiefGrades$World") K hin_X10 2 rfl rfl 12 (by decide) u_189 (Or.inl rfl) rfl dX10_become_138 ?_
    refine g_iconst (v := 0) K dX10_become_141 (by decide) ?_
    refine g_bipush (v := 10) K dX10_become_142 (by decide) ?_
    obtain ⟨f_5, ef_5, h⟩ := gi_nm h
    refine g_copy (f := (A0 12)) (g := w1a12) (n := 10) (ws' := cw (g_E Γ) q r (gpl F) o0 A0 C0 h0 (gu (gu (gu (gu (gu (gu (gu (gu o1 0 (o0 0)) 1 (o0 1)) 2 (o0 2)) 3 (o0 3)) 4 (o0 4)) 5 (o0 5)) 6 (o0 6)) 7 (o0 7)) (gu (gu (gu (gu (gu (gu (gu (gu (gu A1 8 f_1) 9 f_2) 10 f_3) 11 f_4) 12 f_5) 14 w1a14) 15 w1a15) 16 w1a16) 17 w1a17) w1c h0 o2 A2 C2 h2 gs0 gA tb0 tA0 bf0 hi0) K 10 20 rfl rfl 0 rfl rfl (by decide) (by decide) (by decide) (by decide) (fun _ _ => rfl) u_765 u_748 u_747 u_88 hRm ⟨by decide, Nat.le_of_ble_eq_true rfl⟩ dX10_become_144 (by rw [ef_5]; rfl) ?_
    refine g_aload_n K dX10_become_147 rfl 1 rfl ?_
    refine g_get (v := .ref (r 0 14)) (T := TX10) (ref := "ChiefGrades$World") K hin_X10 1 rfl rfl 14 (by decide) u_193 (Or.inl rfl) rfl dX10_become_148 ?_
    refine g_iconst (v := 0) K dX10_become_151 (by decide) ?_
    refine g_aload_n K dX10_become_152 rfl 0 rfl ?_
    refine g_get (v := .ref (r 1 14)) (T := TX10) (ref := "ChiefGrades$World") K hin_X10 2 rfl rfl 14 (by decide) u_193 (Or.inl rfl) rfl dX10_become_153 ?_
    refine g_iconst (v := 0) K dX10_become_156 (by decide) ?_
    refine g_bipush (v := 20) K dX10_become_157 (by decide) ?_
    obtain ⟨f_6, ef_6, h⟩ := gi_nm h
    refine g_copy (f := (A0 14)) (g := w1a14) (n := 20) (ws' := cw (g_E Γ) q r (gpl F) o0 A0 C0 h0 (gu (gu (gu (gu (gu (gu (gu (gu o1 0 (o0 0)) 1 (o0 1)) 2 (o0 2)) 3 (o0 3)) 4 (o0 4)) 5 (o0 5)) 6 (o0 6)) 7 (o0 7)) (gu (gu (gu (gu (gu (gu (gu (gu (gu A1 8 f_1) 9 f_2) 10 f_3) 11 f_4) 12 f_5) 14 f_6) 15 w1a15) 16 w1a16) 17 w1a17) w1c h0 o2 A2 C2 h2 gs0 gA tb0 tA0 bf0 hi0) K 12 22 rfl rfl 0 rfl rfl (by decide) (by decide) (by decide) (by decide) (fun _ _ => rfl) u_765 u_748 u_747 u_88 hRm ⟨by decide, Nat.le_of_ble_eq_true rfl⟩ dX10_become_159 (by rw [ef_6]; rfl) ?_
    refine g_aload_n K dX10_become_162 rfl 1 rfl ?_
    refine g_get (v := .ref (r 0 15)) (T := TX10) (ref := "ChiefGrades$World") K hin_X10 1 rfl rfl 15 (by decide) u_195 (Or.inl rfl) rfl dX10_become_163 ?_
    refine g_iconst (v := 0) K dX10_become_166 (by decide) ?_
    refine g_aload_n K dX10_become_167 rfl 0 rfl ?_
    refine g_get (v := .ref (r 1 15)) (T := TX10) (ref := "ChiefGrades$World") K hin_X10 2 rfl rfl 15 (by decide) u_195 (Or.inl rfl) rfl dX10_become_168 ?_
    refine g_iconst (v := 0) K dX10_become_171 (by decide) ?_
    refine g_bipush (v := 20) K dX10_become_172 (by decide) ?_
    obtain ⟨f_7, ef_7, h⟩ := gi_nm h
    refine g_copy (f := (A0 15)) (g := w1a15) (n := 20) (ws' := cw (g_E Γ) q r (gpl F) o0 A0 C0 h0 (gu (gu (gu (gu (gu (gu (gu (gu o1 0 (o0 0)) 1 (o0 1)) 2 (o0 2)) 3 (o0 3)) 4 (o0 4)) 5 (o0 5)) 6 (o0 6)) 7 (o0 7)) (gu (gu (gu (gu (gu (gu (gu (gu (gu A1 8 f_1) 9 f_2) 10 f_3) 11 f_4) 12 f_5) 14 f_6) 15 f_7) 16 w1a16) 17 w1a17) w1c h0 o2 A2 C2 h2 gs0 gA tb0 tA0 bf0 hi0) K 13 23 rfl rfl 0 rfl rfl (by decide) (by decide) (by decide) (by decide) (fun _ _ => rfl) u_765 u_748 u_747 u_88 hRm ⟨by decide, Nat.le_of_ble_eq_true rfl⟩ dX10_become_174 (by rw [ef_7]; rfl) ?_
    refine g_aload_n K dX10_become_177 rfl 1 rfl ?_
    refine g_get (v := .ref (r 0 16)) (T := TX10) (ref := "ChiefGrades$World") K hin_X10 1 rfl rfl 16 (by decide) u_197 (Or.inl rfl) rfl dX10_become_178 ?_
    refine g_iconst (v := 0) K dX10_become_181 (by decide) ?_
    refine g_aload_n K dX10_become_182 rfl 0 rfl ?_
    refine g_get (v := .ref (r 1 16)) (T := TX10) (ref := "ChiefGrades$World") K hin_X10 2 rfl rfl 16 (by decide) u_197 (Or.inl rfl) rfl dX10_become_183 ?_
    refine g_iconst (v := 0) K dX10_become_186 (by decide) ?_
    refine g_bipush (v := 20) K dX10_become_187 (by decide) ?_
    obtain ⟨f_8, ef_8, h⟩ := gi_nm h
    refine g_copy (f := (A0 16)) (g := w1a16) (n := 20) (ws' := cw (g_E Γ) q r (gpl F) o0 A0 C0 h0 (gu (gu (gu (gu (gu (gu (gu (gu o1 0 (o0 0)) 1 (o0 1)) 2 (o0 2)) 3 (o0 3)) 4 (o0 4)) 5 (o0 5)) 6 (o0 6)) 7 (o0 7)) (gu (gu (gu (gu (gu (gu (gu (gu (gu A1 8 f_1) 9 f_2) 10 f_3) 11 f_4) 12 f_5) 14 f_6) 15 f_7) 16 f_8) 17 w1a17) w1c h0 o2 A2 C2 h2 gs0 gA tb0 tA0 bf0 hi0) K 14 24 rfl rfl 0 rfl rfl (by decide) (by decide) (by decide) (by decide) (fun _ _ => rfl) u_765 u_748 u_747 u_88 hRm ⟨by decide, Nat.le_of_ble_eq_true rfl⟩ dX10_become_189 (by rw [ef_8]; rfl) ?_
    refine g_aload_n K dX10_become_192 rfl 1 rfl ?_
    refine g_get (v := .ref (r 0 17)) (T := TX10) (ref := "ChiefGrades$World") K hin_X10 1 rfl rfl 17 (by decide) u_199 (Or.inl rfl) rfl dX10_become_193 ?_
    refine g_iconst (v := 0) K dX10_become_196 (by decide) ?_
    refine g_aload_n K dX10_become_197 rfl 0 rfl ?_
    refine g_get (v := .ref (r 1 17)) (T := TX10) (ref := "ChiefGrades$World") K hin_X10 2 rfl rfl 17 (by decide) u_199 (Or.inl rfl) rfl dX10_become_198 ?_
    refine g_iconst (v := 0) K dX10_become_201 (by decide) ?_
    refine g_bipush (v := 100) K dX10_become_202 (by decide) ?_
    obtain ⟨b_9, h⟩ := gi_none h
    obtain ⟨f_10, ef_10, h⟩ := gi_nm h
    refine g_copy (f := (A0 17)) (g := w1a17) (n := 100) (ws' := cw (g_E Γ) q r (gpl F) o0 A0 C0 h0 (gu (gu (gu (gu (gu (gu (gu (gu o1 0 (o0 0)) 1 (o0 1)) 2 (o0 2)) 3 (o0 3)) 4 (o0 4)) 5 (o0 5)) 6 (o0 6)) 7 (o0 7)) (gu (gu (gu (gu (gu (gu (gu (gu (gu A1 8 f_1) 9 f_2) 10 f_3) 11 f_4) 12 f_5) 14 f_6) 15 f_7) 16 f_8) 17 f_10) w1c h0 o2 A2 C2 h2 gs0 gA tb0 tA0 bf0 hi0) K 15 25 rfl rfl 1 rfl rfl (by decide) (by decide) (by decide) (by decide) (gfitC_fit b_9) u_765 u_748 u_747 u_88 hRm ⟨by decide, Nat.le_of_ble_eq_true rfl⟩ dX10_become_204 (by rw [ef_10]; rfl) ?_
    refine g_iconst (v := 0) K dX10_become_207 (by decide) ?_
    refine g_istore_n (L' := [(2, .int 0), (0, .ref (q 1)), (1, .ref (q 0))]) K dX10_become_208 rfl (hlt _ (by decide)) rfl ?_
    refine g_sub (L' := [(0, .ref (q 1)), (1, .ref (q 0)), (2, .int 0)]) [1, 2, 0] rfl ?_
    exact wX10_become_w1_w0_209 (C0 := C0) (h0 := h0) (C1 := C1) (h1 := h1) (C2 := C2) (h2 := h2) (gs0 := gs0) (tb0 := tb0) (tA0 := tA0) (bf0 := bf0) (hi0 := hi0) hF K hlt hRm hret 1000 (o0 0) (o0 1) (o0 2) (o0 3) (o0 4) (o0 5) (o0 6) (o0 7) f_1 f_2 f_3 f_4 f_5 f_6 f_7 f_8 f_10 h0 w1c 0 h

set_option maxRecDepth 100000 in
theorem ctX10_become_w1_w0 {E : gE} {q : Nat → Nat} {r : Nat → Nat → Nat} {F : gF} (hF : gFz E F) (o0 : Nat → Int32) (A0 : Nat → Nat → Int32) (C0 : Nat → Option Nat) (h0 : Nat) (o1 : Nat → Int32) (A1 : Nat → Nat → Int32) (C1 : Nat → Option Nat) (h1 : Nat) (o2 : Nat → Int32) (A2 : Nat → Nat → Int32) (C2 : Nat → Option Nat) (h2 : Nat) (gs0 : Int32) (gA : Nat → Nat → Int32) (tb0 : Int32) (tA0 bf0 : Nat → Int32) (hi0 : Int32) {res : Int32 × Int32 × Int32 × Int32 × Int32 × Int32 × Int32 × Int32 × ((Nat → Int32)) × ((Nat → Int32)) × ((Nat → Int32)) × ((Nat → Int32)) × ((Nat → Int32)) × ((Nat → Int32)) × ((Nat → Int32)) × ((Nat → Int32)) × ((Nat → Int32)) × Nat × ((Nat → Option Nat))} (h : pX10_become_w1_w0 F (o0 0) (o0 1) (o0 2) (o0 3) (o0 4) (o0 5) (o0 6) (o0 7) (A0 8) (A0 9) (A0 10) (A0 11) (A0 12) (A0 14) (A0 15) (A0 16) (A0 17) h0 C0 (o1 0) (o1 1) (o1 2) (o1 3) (o1 4) (o1 5) (o1 6) (o1 7) (A1 8) (A1 9) (A1 10) (A1 11) (A1 12) (A1 14) (A1 15) (A1 16) (A1 17) h1 C1 = some res) : gMv yX10_become (.code yX10_become cX10_become 3 none :: gU) ({ frames := 4, cells := 0, slots := 0, locals := 150 } : Room) 0 0 E [.ref (q 1), .ref (q 0)] (cw E q r (gpl F) o0 A0 C0 h0 o1 A1 C1 h1 o2 A2 C2 h2 gs0 gA tb0 tA0 bf0 hi0) (fun w => w = cw E q r (gpl F) o0 A0 C0 h0 (gu (gu (gu (gu (gu (gu (gu (gu o1 0 res.1) 1 res.2.1) 2 res.2.2.1) 3 res.2.2.2.1) 4 res.2.2.2.2.1) 5 res.2.2.2.2.2.1) 6 res.2.2.2.2.2.2.1) 7 res.2.2.2.2.2.2.2.1) (gu (gu (gu (gu (gu (gu (gu (gu (gu A1 8 res.2.2.2.2.2.2.2.2.1) 9 res.2.2.2.2.2.2.2.2.2.1) 10 res.2.2.2.2.2.2.2.2.2.2.1) 11 res.2.2.2.2.2.2.2.2.2.2.2.1) 12 res.2.2.2.2.2.2.2.2.2.2.2.2.1) 14 res.2.2.2.2.2.2.2.2.2.2.2.2.2.1) 15 res.2.2.2.2.2.2.2.2.2.2.2.2.2.2.1) 16 res.2.2.2.2.2.2.2.2.2.2.2.2.2.2.2.1) 17 res.2.2.2.2.2.2.2.2.2.2.2.2.2.2.2.2.1) res.2.2.2.2.2.2.2.2.2.2.2.2.2.2.2.2.2.2 res.2.2.2.2.2.2.2.2.2.2.2.2.2.2.2.2.2.1 o2 A2 C2 h2 gs0 gA tb0 tA0 bf0 hi0) := by
  refine g_met_v (by decide +kernel) (Nat.le_of_ble_eq_true rfl) (fun Γ K hn hE hRm _ hret => ?_)
  subst hE
  have hlt : ∀ i, i < 3 → i < g_n Γ := fun i q => by rw [hn]; exact q
  refine g_ws (ws' := cw (g_E Γ) q r (gpl F) o0 A0 C0 h0 (gu (gu (gu (gu (gu (gu (gu (gu o1 0 (o1 0)) 1 (o1 1)) 2 (o1 2)) 3 (o1 3)) 4 (o1 4)) 5 (o1 5)) 6 (o1 6)) 7 (o1 7)) (gu (gu (gu (gu (gu (gu (gu (gu (gu A1 8 (A1 8)) 9 (A1 9)) 10 (A1 10)) 11 (A1 11)) 12 (A1 12)) 14 (A1 14)) 15 (A1 15)) 16 (A1 16)) 17 (A1 17)) C1 h1 o2 A2 C2 h2 gs0 gA tb0 tA0 bf0 hi0) rfl ?_
  refine g_sub (L' := [(0, .ref (q 1)), (1, .ref (q 0))]) [0, 1] rfl ?_
  exact wX10_become_w1_w0 (C0 := C0) (h0 := h0) (C1 := C1) (h1 := h1) (C2 := C2) (h2 := h2) (gs0 := gs0) (tb0 := tb0) (tA0 := tA0) (bf0 := bf0) (hi0 := hi0) hF K hlt hRm hret (o1 0) (o1 1) (o1 2) (o1 3) (o1 4) (o1 5) (o1 6) (o1 7) (A1 8) (A1 9) (A1 10) (A1 11) (A1 12) (A1 14) (A1 15) (A1 16) (A1 17) h1 C1 h

set_option maxHeartbeats 4000000 in
set_option maxRecDepth 100000 in
theorem wX10_hasWorker_w1 {Γ : gT} {q : Nat → Nat} {r : Nat → Nat → Nat} {F : gF} (hF : gFz (g_E Γ) F) {o0 : Nat → Int32} {A0 : Nat → Nat → Int32} {C0 : Nat → Option Nat} {h0 : Nat} {o1 : Nat → Int32} {A1 : Nat → Nat → Int32} {C1 : Nat → Option Nat} {h1 : Nat} {o2 : Nat → Int32} {A2 : Nat → Nat → Int32} {C2 : Nat → Option Nat} {h2 : Nat} {gs0 : Int32} {gA : Nat → Nat → Int32} {tb0 : Int32} {tA0 bf0 : Nat → Int32} {hi0 : Int32} (K : gOK Γ cX10_hasWorker gU RX10) (hlt : ∀ i, i < 2 → i < g_n Γ) (hRm : g_R Γ = ({ frames := 4, cells := 0, slots := 0, locals := 150 } : Room)) {res : Int32} (hret : ∀ (pc : Nat) (L : List (Nat × Value)) (v : Int32) (w : va_W), decode cX10_hasWorker pc = .ok (.ireturn, 1) → narrow .boolean (.int v) = .int v → (v = res ∧ w = cw (g_E Γ) q r (gpl F) o0 A0 C0 h0 o1 A1 C1 h1 o2 A2 C2 h2 gs0 gA tb0 tA0 bf0 hi0) → gGO Γ 0 0 pc L [.int v] w) (x1 : Int32) (h : pX10_hasWorker_w1 (o1 0) x1 = some res) : gGO Γ 0 0 0 [(0, .ref (q 1)), (1, .int x1)] [] (cw (g_E Γ) q r (gpl F) o0 A0 C0 h0 o1 A1 C1 h1 o2 A2 C2 h2 gs0 gA tb0 tA0 bf0 hi0) := by
    unfold pX10_hasWorker_w1 at h
    refine g_iload_n K dX10_hasWorker_0 rfl 1 rfl ?_
    obtain ⟨ht9, hf9⟩ := gi_br h; clear h
    refine g_if_lt (tgt := 22) K dX10_hasWorker_1 (by decide) (fun qh => ?_) (fun qh => ?_)
    · have h := ht9 qh; clear ht9 hf9
      refine g_iconst (v := 0) K dX10_hasWorker_22 (by decide) ?_
      obtain rfl := Option.some.inj h
      exact hret _ _ _ _ dX10_hasWorker_23 (by decide) ⟨rfl, rfl⟩
    · have h := hf9 qh; clear ht9 hf9
      refine g_iload_n K dX10_hasWorker_4 rfl 1 rfl ?_
      refine g_aload_n K dX10_hasWorker_5 rfl 0 rfl ?_
      refine g_get (v := .int (o1 0)) (T := TX10) (ref := "ChiefGrades$World") K hin_X10 2 rfl rfl 0 (by decide) u_158 (Or.inl rfl) rfl dX10_hasWorker_6 ?_
      obtain ⟨ht9, hf9⟩ := gi_br h; clear h
      refine g_icmp_ge (tgt := 22) K dX10_hasWorker_9 (by decide) (fun qh => ?_) (fun qh => ?_)
      · have h := ht9 qh; clear ht9 hf9
        refine g_iconst (v := 0) K dX10_hasWorker_22 (by decide) ?_
        obtain rfl := Option.some.inj h
        exact hret _ _ _ _ dX10_hasWorker_23 (by decide) ⟨rfl, rfl⟩
      · have h := hf9 qh; clear ht9 hf9
        refine g_iload_n K dX10_hasWorker_12 rfl 1 rfl ?_
        refine g_bipush (v := 10) K dX10_hasWorker_13 (by decide) ?_
        obtain ⟨ht9, hf9⟩ := gi_br h; clear h
        refine g_icmp_ge (tgt := 22) K dX10_hasWorker_15 (by decide) (fun qh => ?_) (fun qh => ?_)
        · have h := ht9 qh; clear ht9 hf9
          refine g_iconst (v := 0) K dX10_hasWorker_22 (by decide) ?_
          obtain rfl := Option.some.inj h
          exact hret _ _ _ _ dX10_hasWorker_23 (by decide) ⟨rfl, rfl⟩
        · have h := hf9 qh; clear ht9 hf9
          refine g_iconst (v := 1) K dX10_hasWorker_18 (by decide) ?_
          refine g_goto (tgt := 23) K dX10_hasWorker_19 (by decide) ?_
          obtain rfl := Option.some.inj h
          exact hret _ _ _ _ dX10_hasWorker_23 (by decide) ⟨rfl, rfl⟩

set_option maxRecDepth 100000 in
theorem ctX10_hasWorker_w1 {E : gE} {q : Nat → Nat} {r : Nat → Nat → Nat} {F : gF} (hF : gFz E F) (o0 : Nat → Int32) (A0 : Nat → Nat → Int32) (C0 : Nat → Option Nat) (h0 : Nat) (o1 : Nat → Int32) (A1 : Nat → Nat → Int32) (C1 : Nat → Option Nat) (h1 : Nat) (o2 : Nat → Int32) (A2 : Nat → Nat → Int32) (C2 : Nat → Option Nat) (h2 : Nat) (gs0 : Int32) (gA : Nat → Nat → Int32) (tb0 : Int32) (tA0 bf0 : Nat → Int32) (hi0 : Int32) (x1 : Int32) {res : Int32} (h : pX10_hasWorker_w1 (o1 0) x1 = some res) : gMi yX10_hasWorker (.code yX10_hasWorker cX10_hasWorker 2 (some .boolean) :: gU) ({ frames := 4, cells := 0, slots := 0, locals := 150 } : Room) 0 0 E [.ref (q 1), .int x1] (cw E q r (gpl F) o0 A0 C0 h0 o1 A1 C1 h1 o2 A2 C2 h2 gs0 gA tb0 tA0 bf0 hi0) (fun v w => v = res ∧ w = cw E q r (gpl F) o0 A0 C0 h0 o1 A1 C1 h1 o2 A2 C2 h2 gs0 gA tb0 tA0 bf0 hi0) := by
  refine g_met_i (by decide +kernel) (Nat.le_of_ble_eq_true rfl) (fun Γ K hn hE hRm _ hret => ?_)
  subst hE
  have hlt : ∀ i, i < 2 → i < g_n Γ := fun i q => by rw [hn]; exact q
  refine g_sub (L' := [(0, .ref (q 1)), (1, .int x1)]) [0, 1] rfl ?_
  exact wX10_hasWorker_w1 (C0 := C0) (h0 := h0) (C1 := C1) (h1 := h1) (C2 := C2) (h2 := h2) (gs0 := gs0) (tb0 := tb0) (tA0 := tA0) (bf0 := bf0) (hi0 := hi0) hF K hlt hRm hret x1 h

set_option maxHeartbeats 4000000 in
set_option maxRecDepth 100000 in
theorem wX10_chiefAt_w1 {Γ : gT} {q : Nat → Nat} {r : Nat → Nat → Nat} {F : gF} (hF : gFz (g_E Γ) F) {o0 : Nat → Int32} {A0 : Nat → Nat → Int32} {C0 : Nat → Option Nat} {h0 : Nat} {o1 : Nat → Int32} {A1 : Nat → Nat → Int32} {C1 : Nat → Option Nat} {h1 : Nat} {o2 : Nat → Int32} {A2 : Nat → Nat → Int32} {C2 : Nat → Option Nat} {h2 : Nat} {gs0 : Int32} {gA : Nat → Nat → Int32} {tb0 : Int32} {tA0 bf0 : Nat → Int32} {hi0 : Int32} (K : gOK Γ cX10_chiefAt gU RX10) (hlt : ∀ i, i < 2 → i < g_n Γ) (hRm : g_R Γ = ({ frames := 4, cells := 0, slots := 0, locals := 150 } : Room)) {res : Option Nat} (hret : ∀ (pc : Nat) (L : List (Nat × Value)) (v : Option Nat) (w : va_W), decode cX10_chiefAt pc = .ok (.areturn, 1) → (v = res ∧ w = cw (g_E Γ) q r (gpl F) o0 A0 C0 h0 o1 A1 C1 h1 o2 A2 C2 h2 gs0 gA tb0 tA0 bf0 hi0) → gGO Γ 0 0 pc L [va_rf v] w) (x1 : Int32) (h : pX10_chiefAt_w1 (o1 1) C1 x1 = some res) : gGO Γ 0 0 0 [(0, .ref (q 1)), (1, .int x1)] [] (cw (g_E Γ) q r (gpl F) o0 A0 C0 h0 o1 A1 C1 h1 o2 A2 C2 h2 gs0 gA tb0 tA0 bf0 hi0) := by
    unfold pX10_chiefAt_w1 at h
    refine g_iload_n K dX10_chiefAt_0 rfl 1 rfl ?_
    obtain ⟨ht9, hf9⟩ := gi_br h; clear h
    refine g_if_lt (tgt := 26) K dX10_chiefAt_1 (by decide) (fun qh => ?_) (fun qh => ?_)
    · have h := ht9 qh; clear ht9 hf9
      refine g_null K dX10_chiefAt_26 ?_
      obtain rfl := Option.some.inj h
      exact hret _ _ none _ dX10_chiefAt_27 ⟨rfl, rfl⟩
    · have h := hf9 qh; clear ht9 hf9
      refine g_iload_n K dX10_chiefAt_4 rfl 1 rfl ?_
      refine g_aload_n K dX10_chiefAt_5 rfl 0 rfl ?_
      refine g_get (v := .int (o1 1)) (T := TX10) (ref := "ChiefGrades$World") K hin_X10 2 rfl rfl 1 (by decide) u_161 (Or.inl rfl) rfl dX10_chiefAt_6 ?_
      obtain ⟨ht9, hf9⟩ := gi_br h; clear h
      refine g_icmp_ge (tgt := 26) K dX10_chiefAt_9 (by decide) (fun qh => ?_) (fun qh => ?_)
      · have h := ht9 qh; clear ht9 hf9
        refine g_null K dX10_chiefAt_26 ?_
        obtain rfl := Option.some.inj h
        exact hret _ _ none _ dX10_chiefAt_27 ⟨rfl, rfl⟩
      · have h := hf9 qh; clear ht9 hf9
        refine g_iload_n K dX10_chiefAt_12 rfl 1 rfl ?_
        refine g_iconst (v := 4) K dX10_chiefAt_13 (by decide) ?_
        obtain ⟨ht9, hf9⟩ := gi_br h; clear h
        refine g_icmp_ge (tgt := 26) K dX10_chiefAt_14 (by decide) (fun qh => ?_) (fun qh => ?_)
        · have h := ht9 qh; clear ht9 hf9
          refine g_null K dX10_chiefAt_26 ?_
          obtain rfl := Option.some.inj h
          exact hret _ _ none _ dX10_chiefAt_27 ⟨rfl, rfl⟩
        · have h := hf9 qh; clear ht9 hf9
          refine g_aload_n K dX10_chiefAt_17 rfl 0 rfl ?_
          refine g_get (v := .ref (r 1 13)) (T := TX10) (ref := "ChiefGrades$World") K hin_X10 2 rfl rfl 13 (by decide) u_191 (Or.inl rfl) rfl dX10_chiefAt_18 ?_
          refine g_iload_n K dX10_chiefAt_21 rfl 1 rfl ?_
          obtain ⟨b_1, h⟩ := gi_none h
          refine g_aald (f := C1) K 21 rfl (ginb_in b_1) dX10_chiefAt_22 ?_
          refine g_goto (tgt := 27) K dX10_chiefAt_23 (by decide) ?_
          obtain rfl := Option.some.inj h
          exact hret _ _ (C1 (Int32.toNatClampNeg x1)) _ dX10_chiefAt_27 ⟨rfl, rfl⟩

set_option maxRecDepth 100000 in
theorem ctX10_chiefAt_w1 {E : gE} {q : Nat → Nat} {r : Nat → Nat → Nat} {F : gF} (hF : gFz E F) (o0 : Nat → Int32) (A0 : Nat → Nat → Int32) (C0 : Nat → Option Nat) (h0 : Nat) (o1 : Nat → Int32) (A1 : Nat → Nat → Int32) (C1 : Nat → Option Nat) (h1 : Nat) (o2 : Nat → Int32) (A2 : Nat → Nat → Int32) (C2 : Nat → Option Nat) (h2 : Nat) (gs0 : Int32) (gA : Nat → Nat → Int32) (tb0 : Int32) (tA0 bf0 : Nat → Int32) (hi0 : Int32) (x1 : Int32) {res : Option Nat} (h : pX10_chiefAt_w1 (o1 1) C1 x1 = some res) : gMq yX10_chiefAt (.code yX10_chiefAt cX10_chiefAt 2 (some (.object "ChiefGrades$Chief")) :: gU) ({ frames := 4, cells := 0, slots := 0, locals := 150 } : Room) 0 0 E [.ref (q 1), .int x1] (cw E q r (gpl F) o0 A0 C0 h0 o1 A1 C1 h1 o2 A2 C2 h2 gs0 gA tb0 tA0 bf0 hi0) (fun v w => v = res ∧ w = cw E q r (gpl F) o0 A0 C0 h0 o1 A1 C1 h1 o2 A2 C2 h2 gs0 gA tb0 tA0 bf0 hi0) := by
  refine g_met_q (by decide +kernel) (Nat.le_of_ble_eq_true rfl) (fun Γ K hn hE hRm _ hret => ?_)
  subst hE
  have hlt : ∀ i, i < 2 → i < g_n Γ := fun i q => by rw [hn]; exact q
  refine g_sub (L' := [(0, .ref (q 1)), (1, .int x1)]) [0, 1] rfl ?_
  exact wX10_chiefAt_w1 (C0 := C0) (h0 := h0) (C1 := C1) (h1 := h1) (C2 := C2) (h2 := h2) (gs0 := gs0) (tb0 := tb0) (tA0 := tA0) (bf0 := bf0) (hi0 := hi0) hF K hlt hRm hret x1 h

set_option maxHeartbeats 4000000 in
set_option maxRecDepth 100000 in
theorem wX10_teamBits_w1_4 {Γ : gT} {q : Nat → Nat} {r : Nat → Nat → Nat} {F : gF} (hF : gFz (g_E Γ) F) {o0 : Nat → Int32} {A0 : Nat → Nat → Int32} {C0 : Nat → Option Nat} {h0 : Nat} {o1 : Nat → Int32} {A1 : Nat → Nat → Int32} {C1 : Nat → Option Nat} {h1 : Nat} {o2 : Nat → Int32} {A2 : Nat → Nat → Int32} {C2 : Nat → Option Nat} {h2 : Nat} {gs0 : Int32} {gA : Nat → Nat → Int32} {tb0 : Int32} {tA0 bf0 : Nat → Int32} {hi0 : Int32} (K : gOK Γ cX10_teamBits gU RX10) (hlt : ∀ i, i < 4 → i < g_n Γ) (hRm : g_R Γ = ({ frames := 4, cells := 0, slots := 0, locals := 150 } : Room)) {res : Int32} (hret : ∀ (pc : Nat) (L : List (Nat × Value)) (v : Int32) (w : va_W), decode cX10_teamBits pc = .ok (.ireturn, 1) → narrow .int (.int v) = .int v → (v = res ∧ w = cw (g_E Γ) q r (gpl F) o0 A0 C0 h0 o1 A1 C1 h1 o2 A2 C2 h2 gs0 gA tb0 tA0 bf0 hi0) → gGO Γ 0 0 pc L [.int v] w) : ∀ (n : Nat) (x1 : Int32) (x2 : Int32) (x3 : Int32), pX10_teamBits_w1_4 (o1 0) (A1 10) n x1 x2 x3 = some res → gGO Γ 0 0 4 [(0, .ref (q 1)), (1, .int x1), (2, .int x2), (3, .int x3)] [] (cw (g_E Γ) q r (gpl F) o0 A0 C0 h0 o1 A1 C1 h1 o2 A2 C2 h2 gs0 gA tb0 tA0 bf0 hi0) := by
  intro n
  induction n with
  | zero => intro _ _ _ h; cases h
  | succ n ih =>
    intro x1 x2 x3 h
    simp only [pX10_teamBits_w1_4] at h
    refine g_iload_n K dX10_teamBits_4 rfl 3 rfl ?_
    refine g_aload_n K dX10_teamBits_5 rfl 0 rfl ?_
    refine g_get (v := .int (o1 0)) (T := TX10) (ref := "ChiefGrades$World") K hin_X10 2 rfl rfl 0 (by decide) u_158 (Or.inl rfl) rfl dX10_teamBits_6 ?_
    obtain ⟨ht9, hf9⟩ := gi_br h; clear h
    refine g_icmp_ge (tgt := 34) K dX10_teamBits_9 (by decide) (fun qh => ?_) (fun qh => ?_)
    · have h := ht9 qh; clear ht9 hf9
      refine g_iload_n K dX10_teamBits_34 rfl 2 rfl ?_
      obtain rfl := Option.some.inj h
      exact hret _ _ _ _ dX10_teamBits_35 rfl ⟨rfl, rfl⟩
    · have h := hf9 qh; clear ht9 hf9
      refine g_aload_n K dX10_teamBits_12 rfl 0 rfl ?_
      refine g_get (v := .ref (r 1 10)) (T := TX10) (ref := "ChiefGrades$World") K hin_X10 2 rfl rfl 10 (by decide) u_183 (Or.inl rfl) rfl dX10_teamBits_13 ?_
      refine g_iload_n K dX10_teamBits_16 rfl 3 rfl ?_
      obtain ⟨b_1, h⟩ := gi_none h
      refine g_iald (f := (A1 10)) K 18 rfl (ginb_in b_1) dX10_teamBits_17 ?_
      refine g_iload_n K dX10_teamBits_18 rfl 1 rfl ?_
      obtain ⟨ht9, hf9⟩ := gi_br h; clear h
      refine g_icmp_ne (tgt := 28) K dX10_teamBits_19 (by decide) (fun qh => ?_) (fun qh => ?_)
      · have h := hf9 qh; clear ht9 hf9
        refine g_iinc (v := (x3 + 1)) (L' := [(3, .int (x3 + 1)), (0, .ref (q 1)), (1, .int x1), (2, .int x2)]) K dX10_teamBits_28 3 rfl rfl (hlt _ (by decide)) rfl ?_
        refine g_goto (tgt := 4) K dX10_teamBits_31 (by decide) ?_
        refine g_sub (L' := [(0, .ref (q 1)), (1, .int x1), (2, .int x2), (3, .int (x3 + 1))]) [1, 2, 3, 0] rfl ?_
        exact ih x1 x2 (x3 + 1) h
      · have h := ht9 qh; clear ht9 hf9
        refine g_iload_n K dX10_teamBits_22 rfl 2 rfl ?_
        refine g_iconst (v := 1) K dX10_teamBits_23 (by decide) ?_
        refine g_iload_n K dX10_teamBits_24 rfl 3 rfl ?_
        refine g_ishl K dX10_teamBits_25 ?_
        refine g_ior K dX10_teamBits_26 ?_
        obtain ⟨v_2, ev_2, h⟩ := gi_nm h
        refine g_topi ev_2 ?_
        refine g_istore_n (L' := [(2, .int v_2), (0, .ref (q 1)), (1, .int x1), (3, .int x3)]) K dX10_teamBits_27 rfl (hlt _ (by decide)) rfl ?_
        refine g_iinc (v := (x3 + 1)) (L' := [(3, .int (x3 + 1)), (2, .int v_2), (0, .ref (q 1)), (1, .int x1)]) K dX10_teamBits_28 3 rfl rfl (hlt _ (by decide)) rfl ?_
        refine g_goto (tgt := 4) K dX10_teamBits_31 (by decide) ?_
        refine g_sub (L' := [(0, .ref (q 1)), (1, .int x1), (2, .int v_2), (3, .int (x3 + 1))]) [2, 3, 1, 0] rfl ?_
        exact ih x1 v_2 (x3 + 1) h

set_option maxHeartbeats 4000000 in
set_option maxRecDepth 100000 in
theorem wX10_teamBits_w1 {Γ : gT} {q : Nat → Nat} {r : Nat → Nat → Nat} {F : gF} (hF : gFz (g_E Γ) F) {o0 : Nat → Int32} {A0 : Nat → Nat → Int32} {C0 : Nat → Option Nat} {h0 : Nat} {o1 : Nat → Int32} {A1 : Nat → Nat → Int32} {C1 : Nat → Option Nat} {h1 : Nat} {o2 : Nat → Int32} {A2 : Nat → Nat → Int32} {C2 : Nat → Option Nat} {h2 : Nat} {gs0 : Int32} {gA : Nat → Nat → Int32} {tb0 : Int32} {tA0 bf0 : Nat → Int32} {hi0 : Int32} (K : gOK Γ cX10_teamBits gU RX10) (hlt : ∀ i, i < 4 → i < g_n Γ) (hRm : g_R Γ = ({ frames := 4, cells := 0, slots := 0, locals := 150 } : Room)) {res : Int32} (hret : ∀ (pc : Nat) (L : List (Nat × Value)) (v : Int32) (w : va_W), decode cX10_teamBits pc = .ok (.ireturn, 1) → narrow .int (.int v) = .int v → (v = res ∧ w = cw (g_E Γ) q r (gpl F) o0 A0 C0 h0 o1 A1 C1 h1 o2 A2 C2 h2 gs0 gA tb0 tA0 bf0 hi0) → gGO Γ 0 0 pc L [.int v] w) (x1 : Int32) (h : pX10_teamBits_w1 (o1 0) (A1 10) x1 = some res) : gGO Γ 0 0 0 [(0, .ref (q 1)), (1, .int x1)] [] (cw (g_E Γ) q r (gpl F) o0 A0 C0 h0 o1 A1 C1 h1 o2 A2 C2 h2 gs0 gA tb0 tA0 bf0 hi0) := by
    unfold pX10_teamBits_w1 at h
    refine g_iconst (v := 0) K dX10_teamBits_0 (by decide) ?_
    refine g_istore_n (L' := [(2, .int 0), (0, .ref (q 1)), (1, .int x1)]) K dX10_teamBits_1 rfl (hlt _ (by decide)) rfl ?_
    refine g_iconst (v := 0) K dX10_teamBits_2 (by decide) ?_
    refine g_istore_n (L' := [(3, .int 0), (2, .int 0), (0, .ref (q 1)), (1, .int x1)]) K dX10_teamBits_3 rfl (hlt _ (by decide)) rfl ?_
    refine g_sub (L' := [(0, .ref (q 1)), (1, .int x1), (2, .int 0), (3, .int 0)]) [2, 3, 1, 0] rfl ?_
    exact wX10_teamBits_w1_4 (C0 := C0) (h0 := h0) (C1 := C1) (h1 := h1) (C2 := C2) (h2 := h2) (gs0 := gs0) (tb0 := tb0) (tA0 := tA0) (bf0 := bf0) (hi0 := hi0) hF K hlt hRm hret 1000 x1 0 0 h

set_option maxRecDepth 100000 in
theorem ctX10_teamBits_w1 {E : gE} {q : Nat → Nat} {r : Nat → Nat → Nat} {F : gF} (hF : gFz E F) (o0 : Nat → Int32) (A0 : Nat → Nat → Int32) (C0 : Nat → Option Nat) (h0 : Nat) (o1 : Nat → Int32) (A1 : Nat → Nat → Int32) (C1 : Nat → Option Nat) (h1 : Nat) (o2 : Nat → Int32) (A2 : Nat → Nat → Int32) (C2 : Nat → Option Nat) (h2 : Nat) (gs0 : Int32) (gA : Nat → Nat → Int32) (tb0 : Int32) (tA0 bf0 : Nat → Int32) (hi0 : Int32) (x1 : Int32) {res : Int32} (h : pX10_teamBits_w1 (o1 0) (A1 10) x1 = some res) : gMi yX10_teamBits (.code yX10_teamBits cX10_teamBits 4 (some .int) :: gU) ({ frames := 4, cells := 0, slots := 0, locals := 150 } : Room) 0 0 E [.ref (q 1), .int x1] (cw E q r (gpl F) o0 A0 C0 h0 o1 A1 C1 h1 o2 A2 C2 h2 gs0 gA tb0 tA0 bf0 hi0) (fun v w => v = res ∧ w = cw E q r (gpl F) o0 A0 C0 h0 o1 A1 C1 h1 o2 A2 C2 h2 gs0 gA tb0 tA0 bf0 hi0) := by
  refine g_met_i (by decide +kernel) (Nat.le_of_ble_eq_true rfl) (fun Γ K hn hE hRm _ hret => ?_)
  subst hE
  have hlt : ∀ i, i < 4 → i < g_n Γ := fun i q => by rw [hn]; exact q
  refine g_sub (L' := [(0, .ref (q 1)), (1, .int x1)]) [0, 1] rfl ?_
  exact wX10_teamBits_w1 (C0 := C0) (h0 := h0) (C1 := C1) (h1 := h1) (C2 := C2) (h2 := h2) (gs0 := gs0) (tb0 := tb0) (tA0 := tA0) (bf0 := bf0) (hi0 := hi0) hF K hlt hRm hret x1 h

set_option maxHeartbeats 4000000 in
set_option maxRecDepth 100000 in
theorem wX1_markBy_w1 {Γ : gT} {q : Nat → Nat} {r : Nat → Nat → Nat} {F : gF} (hF : gFz (g_E Γ) F) {o0 : Nat → Int32} {A0 : Nat → Nat → Int32} {C0 : Nat → Option Nat} {h0 : Nat} {o1 : Nat → Int32} {A1 : Nat → Nat → Int32} {C1 : Nat → Option Nat} {h1 : Nat} {o2 : Nat → Int32} {A2 : Nat → Nat → Int32} {C2 : Nat → Option Nat} {h2 : Nat} {gs0 : Int32} {gA : Nat → Nat → Int32} {tb0 : Int32} {tA0 bf0 : Nat → Int32} {hi0 : Int32} (K : gOK Γ cX1_markBy gU RX1) (hlt : ∀ i, i < 4 → i < g_n Γ) (hRm : g_R Γ = ({ frames := 6, cells := 0, slots := 0, locals := 192 } : Room)) {res : Int32 × ((Nat → Int32))} (hret : ∀ (pc : Nat) (L : List (Nat × Value)) (v : Int32) (w : va_W), decode cX1_markBy pc = .ok (.ireturn, 1) → narrow .int (.int v) = .int v → (v = res.1 ∧ w = cw (g_E Γ) q r (gpl F) o0 A0 C0 h0 o1 A1 C1 h1 o2 A2 C2 h2 gs0 (gu gA 5 res.2) tb0 tA0 bf0 hi0) → gGO Γ 0 0 pc L [.int v] w) (ga5 : (Nat → Int32)) (x2 : Int32) (x3 : Nat) (h : pX1_markBy_w1 F (o1 0) (o1 5) (A1 8) (A1 9) (A1 10) (A1 11) h1 ga5 x2 x3 = some res) : gGO Γ 0 0 0 [(0, .ref (q 3)), (1, .ref (q 1)), (2, .int x2), (3, .ref x3)] [] (cw (g_E Γ) q r (gpl F) o0 A0 C0 h0 o1 A1 C1 h1 o2 A2 C2 h2 gs0 (gu gA 5 ga5) tb0 tA0 bf0 hi0) := by
    unfold pX1_markBy_w1 at h
    refine g_aload_n K dX1_markBy_0 rfl 1 rfl ?_
    refine g_iload_n K dX1_markBy_1 rfl 2 rfl ?_
    obtain ⟨z_1, hz_1, h⟩ := gi_bd h
    refine g_callVi (As := [.int x2]) (bytes := cX10_hasWorker) (maxL := 2) (ret := (some .boolean)) K (ctX10_hasWorker_w1 hF o0 A0 C0 h0 o1 A1 C1 h1 o2 A2 C2 h2 gs0 (gu gA 5 ga5) tb0 tA0 bf0 hi0 x2 (res := z_1) hz_1) gc_V_RX1_36_X10_hasWorker rfl qv_X10_hasWorker 2 rfl rfl rfl hRm rfl rfl rfl (by decide) (Nat.le_of_ble_eq_true rfl) (by decide) dX1_markBy_2 (fun v w hw => ?_)
    obtain ⟨hv9, rfl⟩ := hw; have hv9 := hv9.symm; subst hv9
    obtain ⟨ht9, hf9⟩ := gi_br h; clear h
    refine g_if_ne (tgt := 10) K dX1_markBy_5 (by decide) (fun qh => ?_) (fun qh => ?_)
    · have h := hf9 qh; clear ht9 hf9
      refine g_aload_n K dX1_markBy_10 rfl 0 rfl ?_
      refine g_get (v := .ref (r 3 5)) (T := TX1) (ref := "ChiefGrades$Grader") K hin_X1 4 rfl rfl 5 (by decide) u_292 (Or.inl rfl) rfl dX1_markBy_11 ?_
      refine g_iconst (v := 0) K dX1_markBy_14 (by decide) ?_
      refine g_iload_n K dX1_markBy_15 rfl 2 rfl ?_
      obtain ⟨b_2, h⟩ := gi_none h
      obtain ⟨f_3, ef_3, h⟩ := gi_nm h
      refine g_iast (f := ga5) (ws' := cw (g_E Γ) q r (gpl F) o0 A0 C0 h0 o1 A1 C1 h1 o2 A2 C2 h2 gs0 (gu gA 5 f_3) tb0 tA0 bf0 hi0) K 40 rfl (ginb_in b_2) dX1_markBy_16 (by rw [ef_3]; rfl) ?_
      refine g_aload_n K dX1_markBy_17 rfl 0 rfl ?_
      refine g_get (v := .ref (r 3 5)) (T := TX1) (ref := "ChiefGrades$Grader") K hin_X1 4 rfl rfl 5 (by decide) u_292 (Or.inl rfl) rfl dX1_markBy_18 ?_
      refine g_iconst (v := 1) K dX1_markBy_21 (by decide) ?_
      refine g_aload_n K dX1_markBy_22 rfl 3 rfl ?_
      obtain ⟨b_4, h⟩ := gi_none h
      refine chg_1 K hF b_4 hch u_259 dX1_markBy_23 ?_
      obtain ⟨b_5, h⟩ := gi_none h
      obtain ⟨f_6, ef_6, h⟩ := gi_nm h
      refine g_iast (f := f_3) (ws' := cw (g_E Γ) q r (gpl F) o0 A0 C0 h0 o1 A1 C1 h1 o2 A2 C2 h2 gs0 (gu gA 5 f_6) tb0 tA0 bf0 hi0) K 40 rfl (ginb_in b_5) dX1_markBy_26 (by rw [ef_6]; rfl) ?_
      refine g_aload_n K dX1_markBy_27 rfl 0 rfl ?_
      refine g_get (v := .ref (r 3 5)) (T := TX1) (ref := "ChiefGrades$Grader") K hin_X1 4 rfl rfl 5 (by decide) u_292 (Or.inl rfl) rfl dX1_markBy_28 ?_
      refine g_iconst (v := 2) K dX1_markBy_31 (by decide) ?_
      refine g_aload_n K dX1_markBy_32 rfl 3 rfl ?_
      refine chg_0 K hF b_4 hch u_256 dX1_markBy_33 ?_
      obtain ⟨b_7, h⟩ := gi_none h
      obtain ⟨f_8, ef_8, h⟩ := gi_nm h
      refine g_iast (f := f_6) (ws' := cw (g_E Γ) q r (gpl F) o0 A0 C0 h0 o1 A1 C1 h1 o2 A2 C2 h2 gs0 (gu gA 5 f_8) tb0 tA0 bf0 hi0) K 40 rfl (ginb_in b_7) dX1_markBy_36 (by rw [ef_8]; rfl) ?_
      refine g_aload_n K dX1_markBy_37 rfl 0 rfl ?_
      refine g_get (v := .ref (r 3 5)) (T := TX1) (ref := "ChiefGrades$Grader") K hin_X1 4 rfl rfl 5 (by decide) u_292 (Or.inl rfl) rfl dX1_markBy_38 ?_
      refine g_iconst (v := 3) K dX1_markBy_41 (by decide) ?_
      refine g_aload_n K dX1_markBy_42 rfl 1 rfl ?_
      refine g_get (v := .ref (r 1 8)) (T := TX10) (ref := "ChiefGrades$World") K hin_X10 2 rfl rfl 8 (by decide) u_178 (Or.inl rfl) rfl dX1_markBy_43 ?_
      refine g_iload_n K dX1_markBy_46 rfl 2 rfl ?_
      obtain ⟨b_9, h⟩ := gi_none h
      refine g_iald (f := (A1 8)) K 16 rfl (ginb_in b_9) dX1_markBy_47 ?_
      refine g_bipush (v := 10) K dX1_markBy_48 (by decide) ?_
      refine g_idiv K dX1_markBy_50 (by decide) ?_
      obtain ⟨b_11, h⟩ := gi_none h
      obtain ⟨f_12, ef_12, h⟩ := gi_nm h
      refine g_iast (f := f_8) (ws' := cw (g_E Γ) q r (gpl F) o0 A0 C0 h0 o1 A1 C1 h1 o2 A2 C2 h2 gs0 (gu gA 5 f_12) tb0 tA0 bf0 hi0) K 40 rfl (ginb_in b_11) dX1_markBy_51 (by rw [ef_12]; rfl) ?_
      refine g_aload_n K dX1_markBy_52 rfl 0 rfl ?_
      refine g_get (v := .ref (r 3 5)) (T := TX1) (ref := "ChiefGrades$Grader") K hin_X1 4 rfl rfl 5 (by decide) u_292 (Or.inl rfl) rfl dX1_markBy_53 ?_
      refine g_iconst (v := 4) K dX1_markBy_56 (by decide) ?_
      refine g_aload_n K dX1_markBy_57 rfl 1 rfl ?_
      refine g_get (v := .int (o1 5)) (T := TX10) (ref := "ChiefGrades$World") K hin_X10 2 rfl rfl 5 (by decide) u_171 (Or.inl rfl) rfl dX1_markBy_58 ?_
      refine g_bipush (v := 10) K dX1_markBy_61 (by decide) ?_
      refine g_irem K dX1_markBy_63 (by decide) ?_
      obtain ⟨b_14, h⟩ := gi_none h
      obtain ⟨f_15, ef_15, h⟩ := gi_nm h
      refine g_iast (f := f_12) (ws' := cw (g_E Γ) q r (gpl F) o0 A0 C0 h0 o1 A1 C1 h1 o2 A2 C2 h2 gs0 (gu gA 5 f_15) tb0 tA0 bf0 hi0) K 40 rfl (ginb_in b_14) dX1_markBy_64 (by rw [ef_15]; rfl) ?_
      refine g_aload_n K dX1_markBy_65 rfl 0 rfl ?_
      refine g_get (v := .ref (r 3 5)) (T := TX1) (ref := "ChiefGrades$Grader") K hin_X1 4 rfl rfl 5 (by decide) u_292 (Or.inl rfl) rfl dX1_markBy_66 ?_
      refine g_iconst (v := 5) K dX1_markBy_69 (by decide) ?_
      refine g_aload_n K dX1_markBy_70 rfl 1 rfl ?_
      refine g_aload_n K dX1_markBy_71 rfl 3 rfl ?_
      refine chg_1 K hF b_4 hch u_259 dX1_markBy_72 ?_
      obtain ⟨z_16, hz_16, h⟩ := gi_bd h
      refine g_callVi (As := [.int (cn F x3)]) (bytes := cX10_teamBits) (maxL := 4) (ret := (some .int)) K (ctX10_teamBits_w1 hF o0 A0 C0 h0 o1 A1 C1 h1 o2 A2 C2 h2 gs0 (gu gA 5 f_15) tb0 tA0 bf0 hi0 (cn F x3) (res := z_16) hz_16) gc_V_RX1_55_X10_teamBits rfl qv_X10_teamBits 2 rfl rfl rfl hRm rfl rfl rfl (by decide) (Nat.le_of_ble_eq_true rfl) (by decide) dX1_markBy_75 (fun v w hw => ?_)
      obtain ⟨hv9, rfl⟩ := hw; have hv9 := hv9.symm; subst hv9
      obtain ⟨z_17, hz_17, h⟩ := gi_bd h
      refine g_callSi (As := [.int z_16]) (bytes := cJ6_bitCount_0f7a4) (maxL := 1) (ret := (some .int)) K (ctJ6_bitCount_0f7a4 (ws := cw (g_E Γ) q r (gpl F) o0 A0 C0 h0 o1 A1 C1 h1 o2 A2 C2 h2 gs0 (gu gA 5 f_15) tb0 tA0 bf0 hi0) z_16 (res := z_17) hz_17) gc_S_RX1_59_J6_bitCount_0f7a4 rfl qs_J6_bitCount_0f7a4 hRm rfl rfl rfl (by decide) (Nat.le_of_ble_eq_true rfl) (by decide) dX1_markBy_78 (fun v w hw => ?_)
      obtain ⟨hv9, rfl⟩ := hw; have hv9 := hv9.symm; subst hv9
      obtain ⟨b_18, h⟩ := gi_none h
      obtain ⟨f_19, ef_19, h⟩ := gi_nm h
      refine g_iast (f := f_15) (ws' := cw (g_E Γ) q r (gpl F) o0 A0 C0 h0 o1 A1 C1 h1 o2 A2 C2 h2 gs0 (gu gA 5 f_19) tb0 tA0 bf0 hi0) K 40 rfl (ginb_in b_18) dX1_markBy_81 (by rw [ef_19]; rfl) ?_
      refine g_aload_n K dX1_markBy_82 rfl 3 rfl ?_
      refine g_aload_n K dX1_markBy_83 rfl 1 rfl ?_
      refine g_get (v := .ref (r 1 8)) (T := TX10) (ref := "ChiefGrades$World") K hin_X10 2 rfl rfl 8 (by decide) u_178 (Or.inl rfl) rfl dX1_markBy_84 ?_
      refine g_iload_n K dX1_markBy_87 rfl 2 rfl ?_
      obtain ⟨b_20, h⟩ := gi_none h
      refine g_iald (f := (A1 8)) K 16 rfl (ginb_in b_20) dX1_markBy_88 ?_
      refine g_aload_n K dX1_markBy_89 rfl 1 rfl ?_
      refine g_get (v := .ref (r 1 9)) (T := TX10) (ref := "ChiefGrades$World") K hin_X10 2 rfl rfl 9 (by decide) u_181 (Or.inl rfl) rfl dX1_markBy_90 ?_
      refine g_iload_n K dX1_markBy_93 rfl 2 rfl ?_
      obtain ⟨b_21, h⟩ := gi_none h
      refine g_iald (f := (A1 9)) K 17 rfl (ginb_in b_21) dX1_markBy_94 ?_
      obtain ⟨ht9, hf9⟩ := gi_br h; clear h
      by_cases kd_22 : ck F x3 = 0
      · have h := ht9 kd_22; clear ht9 hf9
        obtain ⟨z_29, hz_29, h⟩ := gi_bd h
        refine g_callViF (As := [.int ((A1 8) (Int32.toNatClampNeg x2)), .int ((A1 9) (Int32.toNatClampNeg x2))]) (bytes := cX0_seen) (maxL := 3) (ret := (some .int)) K (ctX0_seen_k0 hF (b0 := x3) b_4 kd_22 o0 A0 C0 h0 o1 A1 C1 h1 o2 A2 C2 h2 gs0 (gu gA 5 f_19) tb0 tA0 bf0 hi0 ((A1 8) (Int32.toNatClampNeg x2)) ((A1 9) (Int32.toNatClampNeg x2)) (res := z_29) hz_29) gc_V_RX1_67_X0_seen rfl qv_X0_seen (gF_at (j := 0) hF b_4 kd_22 (by decide)) rfl rfl hRm rfl rfl rfl (by decide) (Nat.le_of_ble_eq_true rfl) (by decide) dX1_markBy_95 (fun v w hw => ?_)
        obtain ⟨hv9, rfl⟩ := hw; have hv9 := hv9.symm; subst hv9
        refine g_aload_n K dX1_markBy_98 rfl 3 rfl ?_
        refine g_aload_n K dX1_markBy_99 rfl 1 rfl ?_
        refine g_get (v := .ref (r 1 11)) (T := TX10) (ref := "ChiefGrades$World") K hin_X10 2 rfl rfl 11 (by decide) u_187 (Or.inl rfl) rfl dX1_markBy_100 ?_
        refine g_iload_n K dX1_markBy_103 rfl 2 rfl ?_
        obtain ⟨b_30, h⟩ := gi_none h
        refine g_iald (f := (A1 11)) K 19 rfl (ginb_in b_30) dX1_markBy_104 ?_
        obtain ⟨z_31, hz_31, h⟩ := gi_bd h
        refine g_callViF (As := [.int ((A1 11) (Int32.toNatClampNeg x2))]) (bytes := cX0_favour) (maxL := 2) (ret := (some .int)) K (ctX0_favour_k0 hF (b0 := x3) b_4 kd_22 o0 A0 C0 h0 o1 A1 C1 h1 o2 A2 C2 h2 gs0 (gu gA 5 f_19) tb0 tA0 bf0 hi0 ((A1 11) (Int32.toNatClampNeg x2)) (res := z_31) hz_31) gc_V_RX1_74_X0_favour rfl qv_X0_favour (gF_at (j := 0) hF b_4 kd_22 (by decide)) rfl rfl hRm rfl rfl rfl (by decide) (Nat.le_of_ble_eq_true rfl) (by decide) dX1_markBy_105 (fun v w hw => ?_)
        obtain ⟨hv9, rfl⟩ := hw; have hv9 := hv9.symm; subst hv9
        refine g_iadd K dX1_markBy_108 ?_
        refine g_aload_n K dX1_markBy_109 rfl 1 rfl ?_
        refine g_get (v := .ref h1) (T := TX10) (ref := "ChiefGrades$World") K hin_X10 2 rfl rfl 18 (by decide) u_202 (Or.inl rfl) rfl dX1_markBy_110 ?_
        refine g_aload_n K dX1_markBy_113 rfl 0 rfl ?_
        refine g_get (v := .ref (r 3 5)) (T := TX1) (ref := "ChiefGrades$Grader") K hin_X1 4 rfl rfl 5 (by decide) u_292 (Or.inl rfl) rfl dX1_markBy_114 ?_
        obtain ⟨b_32, h⟩ := gi_none h
        obtain ⟨tx9, sz9, at9, fl9, hrv⟩ := (hF.2 _ b_32).1
        obtain ⟨z_33, hz_33, h⟩ := gi_bd h
        refine g_callViF (As := [.ref (r 3 5)]) (bytes := cX2_raise) (maxL := 9) (ret := (some .int)) K (ctX2_raise hF (b0 := h1) b_32 o0 A0 C0 h0 o1 A1 C1 h1 o2 A2 C2 h2 gs0 (gu gA 5 f_19) tb0 tA0 bf0 hi0 (res := z_33) hz_33) gc_V_RX1_81_X2_raise rfl qv_X2_raise hrv rfl rfl hRm rfl rfl rfl (by decide) (Nat.le_of_ble_eq_true rfl) (by decide) dX1_markBy_117 (fun v w hw => ?_)
        obtain ⟨hv9, rfl⟩ := hw; have hv9 := hv9.symm; subst hv9
        refine g_iadd K dX1_markBy_120 ?_
        obtain rfl := Option.some.inj h
        exact hret _ _ _ _ dX1_markBy_121 rfl ⟨rfl, rfl⟩
      have h := hf9 kd_22; clear ht9 hf9
      obtain ⟨ht9, hf9⟩ := gi_br h; clear h
      by_cases kd_23 : ck F x3 = 1
      · have h := ht9 kd_23; clear ht9 hf9
        obtain ⟨z_34, hz_34, h⟩ := gi_bd h
        refine g_callUiF (n := 2) (owner := "ChiefGrades$Chief") (x := ⟨"ChiefGrades$Chief", "seen", "(II)I"⟩) (As := [.int ((A1 8) (Int32.toNatClampNeg x2)), .int ((A1 9) (Int32.toNatClampNeg x2))]) (bytes := cX0_seen) (maxL := 3) (ret := (some .int)) K (ctX0_seen_k1 hF (b0 := x3) b_4 kd_23 o0 A0 C0 h0 o1 A1 C1 h1 o2 A2 C2 h2 gs0 (gu gA 5 f_19) tb0 tA0 bf0 hi0 ((A1 8) (Int32.toNatClampNeg x2)) ((A1 9) (Int32.toNatClampNeg x2)) (res := z_34) hz_34) gc_UX5_RX1_67_X0_seen rfl rfl (by decide +kernel) (gF_at (j := 1) hF b_4 kd_23 (by decide)) rfl rfl hRm rfl rfl rfl (by decide) (Nat.le_of_ble_eq_true rfl) (by decide) dX1_markBy_95 (fun v w hw => ?_)
        obtain ⟨hv9, rfl⟩ := hw; have hv9 := hv9.symm; subst hv9
        refine g_aload_n K dX1_markBy_98 rfl 3 rfl ?_
        refine g_aload_n K dX1_markBy_99 rfl 1 rfl ?_
        refine g_get (v := .ref (r 1 11)) (T := TX10) (ref := "ChiefGrades$World") K hin_X10 2 rfl rfl 11 (by decide) u_187 (Or.inl rfl) rfl dX1_markBy_100 ?_
        refine g_iload_n K dX1_markBy_103 rfl 2 rfl ?_
        obtain ⟨b_35, h⟩ := gi_none h
        refine g_iald (f := (A1 11)) K 19 rfl (ginb_in b_35) dX1_markBy_104 ?_
        obtain ⟨z_36, hz_36, h⟩ := gi_bd h
        refine g_callOiF (n := 1) (owner := "ChiefGrades$Chief") (x := ⟨"ChiefGrades$Chief", "favour", "(I)I"⟩) (As := [.int ((A1 11) (Int32.toNatClampNeg x2))]) (bytes := cX5_favour) (maxL := 2) (ret := (some .int)) K (ctX5_favour_k1 hF (b0 := x3) b_4 kd_23 o0 A0 C0 h0 o1 A1 C1 h1 o2 A2 C2 h2 gs0 (gu gA 5 f_19) tb0 tA0 bf0 hi0 ((A1 11) (Int32.toNatClampNeg x2)) (res := z_36) hz_36) gc_OX5_RX1_74_X5_favour rfl u_660 (by decide +kernel) (gF_at (j := 1) hF b_4 kd_23 (by decide)) rfl rfl hRm rfl rfl rfl (by decide) (Nat.le_of_ble_eq_true rfl) (by decide) dX1_markBy_105 (fun v w hw => ?_)
        obtain ⟨hv9, rfl⟩ := hw; have hv9 := hv9.symm; subst hv9
        refine g_iadd K dX1_markBy_108 ?_
        refine g_aload_n K dX1_markBy_109 rfl 1 rfl ?_
        refine g_get (v := .ref h1) (T := TX10) (ref := "ChiefGrades$World") K hin_X10 2 rfl rfl 18 (by decide) u_202 (Or.inl rfl) rfl dX1_markBy_110 ?_
        refine g_aload_n K dX1_markBy_113 rfl 0 rfl ?_
        refine g_get (v := .ref (r 3 5)) (T := TX1) (ref := "ChiefGrades$Grader") K hin_X1 4 rfl rfl 5 (by decide) u_292 (Or.inl rfl) rfl dX1_markBy_114 ?_
        obtain ⟨b_37, h⟩ := gi_none h
        obtain ⟨tx9, sz9, at9, fl9, hrv⟩ := (hF.2 _ b_37).1
        obtain ⟨z_38, hz_38, h⟩ := gi_bd h
        refine g_callViF (As := [.ref (r 3 5)]) (bytes := cX2_raise) (maxL := 9) (ret := (some .int)) K (ctX2_raise hF (b0 := h1) b_37 o0 A0 C0 h0 o1 A1 C1 h1 o2 A2 C2 h2 gs0 (gu gA 5 f_19) tb0 tA0 bf0 hi0 (res := z_38) hz_38) gc_V_RX1_81_X2_raise rfl qv_X2_raise hrv rfl rfl hRm rfl rfl rfl (by decide) (Nat.le_of_ble_eq_true rfl) (by decide) dX1_markBy_117 (fun v w hw => ?_)
        obtain ⟨hv9, rfl⟩ := hw; have hv9 := hv9.symm; subst hv9
        refine g_iadd K dX1_markBy_120 ?_
        obtain rfl := Option.some.inj h
        exact hret _ _ _ _ dX1_markBy_121 rfl ⟨rfl, rfl⟩
      have h := hf9 kd_23; clear ht9 hf9
      obtain ⟨ht9, hf9⟩ := gi_br h; clear h
      by_cases kd_24 : ck F x3 = 2
      · have h := ht9 kd_24; clear ht9 hf9
        obtain ⟨z_39, hz_39, h⟩ := gi_bd h
        refine g_callUiF (n := 2) (owner := "ChiefGrades$Chief") (x := ⟨"ChiefGrades$Chief", "seen", "(II)I"⟩) (As := [.int ((A1 8) (Int32.toNatClampNeg x2)), .int ((A1 9) (Int32.toNatClampNeg x2))]) (bytes := cX0_seen) (maxL := 3) (ret := (some .int)) K (ctX0_seen_k2 hF (b0 := x3) b_4 kd_24 o0 A0 C0 h0 o1 A1 C1 h1 o2 A2 C2 h2 gs0 (gu gA 5 f_19) tb0 tA0 bf0 hi0 ((A1 8) (Int32.toNatClampNeg x2)) ((A1 9) (Int32.toNatClampNeg x2)) (res := z_39) hz_39) gc_UX9_RX1_67_X0_seen rfl rfl (by decide +kernel) (gF_at (j := 2) hF b_4 kd_24 (by decide)) rfl rfl hRm rfl rfl rfl (by decide) (Nat.le_of_ble_eq_true rfl) (by decide) dX1_markBy_95 (fun v w hw => ?_)
        obtain ⟨hv9, rfl⟩ := hw; have hv9 := hv9.symm; subst hv9
        refine g_aload_n K dX1_markBy_98 rfl 3 rfl ?_
        refine g_aload_n K dX1_markBy_99 rfl 1 rfl ?_
        refine g_get (v := .ref (r 1 11)) (T := TX10) (ref := "ChiefGrades$World") K hin_X10 2 rfl rfl 11 (by decide) u_187 (Or.inl rfl) rfl dX1_markBy_100 ?_
        refine g_iload_n K dX1_markBy_103 rfl 2 rfl ?_
        obtain ⟨b_40, h⟩ := gi_none h
        refine g_iald (f := (A1 11)) K 19 rfl (ginb_in b_40) dX1_markBy_104 ?_
        obtain ⟨z_41, hz_41, h⟩ := gi_bd h
        refine g_callUiF (n := 1) (owner := "ChiefGrades$Chief") (x := ⟨"ChiefGrades$Chief", "favour", "(I)I"⟩) (As := [.int ((A1 11) (Int32.toNatClampNeg x2))]) (bytes := cX0_favour) (maxL := 2) (ret := (some .int)) K (ctX0_favour_k2 hF (b0 := x3) b_4 kd_24 o0 A0 C0 h0 o1 A1 C1 h1 o2 A2 C2 h2 gs0 (gu gA 5 f_19) tb0 tA0 bf0 hi0 ((A1 11) (Int32.toNatClampNeg x2)) (res := z_41) hz_41) gc_UX9_RX1_74_X0_favour rfl rfl (by decide +kernel) (gF_at (j := 2) hF b_4 kd_24 (by decide)) rfl rfl hRm rfl rfl rfl (by decide) (Nat.le_of_ble_eq_true rfl) (by decide) dX1_markBy_105 (fun v w hw => ?_)
        obtain ⟨hv9, rfl⟩ := hw; have hv9 := hv9.symm; subst hv9
        refine g_iadd K dX1_markBy_108 ?_
        refine g_aload_n K dX1_markBy_109 rfl 1 rfl ?_
        refine g_get (v := .ref h1) (T := TX10) (ref := "ChiefGrades$World") K hin_X10 2 rfl rfl 18 (by decide) u_202 (Or.inl rfl) rfl dX1_markBy_110 ?_
        refine g_aload_n K dX1_markBy_113 rfl 0 rfl ?_
        refine g_get (v := .ref (r 3 5)) (T := TX1) (ref := "ChiefGrades$Grader") K hin_X1 4 rfl rfl 5 (by decide) u_292 (Or.inl rfl) rfl dX1_markBy_114 ?_
        obtain ⟨b_42, h⟩ := gi_none h
        obtain ⟨tx9, sz9, at9, fl9, hrv⟩ := (hF.2 _ b_42).1
        obtain ⟨z_43, hz_43, h⟩ := gi_bd h
        refine g_callViF (As := [.ref (r 3 5)]) (bytes := cX2_raise) (maxL := 9) (ret := (some .int)) K (ctX2_raise hF (b0 := h1) b_42 o0 A0 C0 h0 o1 A1 C1 h1 o2 A2 C2 h2 gs0 (gu gA 5 f_19) tb0 tA0 bf0 hi0 (res := z_43) hz_43) gc_V_RX1_81_X2_raise rfl qv_X2_raise hrv rfl rfl hRm rfl rfl rfl (by decide) (Nat.le_of_ble_eq_true rfl) (by decide) dX1_markBy_117 (fun v w hw => ?_)
        obtain ⟨hv9, rfl⟩ := hw; have hv9 := hv9.symm; subst hv9
        refine g_iadd K dX1_markBy_120 ?_
        obtain rfl := Option.some.inj h
        exact hret _ _ _ _ dX1_markBy_121 rfl ⟨rfl, rfl⟩
      have h := hf9 kd_24; clear ht9 hf9
      obtain ⟨ht9, hf9⟩ := gi_br h; clear h
      by_cases kd_25 : ck F x3 = 3
      · have h := ht9 kd_25; clear ht9 hf9
        obtain ⟨z_44, hz_44, h⟩ := gi_bd h
        refine g_callOiF (n := 2) (owner := "ChiefGrades$Chief") (x := ⟨"ChiefGrades$Chief", "seen", "(II)I"⟩) (As := [.int ((A1 8) (Int32.toNatClampNeg x2)), .int ((A1 9) (Int32.toNatClampNeg x2))]) (bytes := cX4_seen) (maxL := 3) (ret := (some .int)) K (ctX4_seen_k3 hF (b0 := x3) b_4 kd_25 o0 A0 C0 h0 o1 A1 C1 h1 o2 A2 C2 h2 gs0 (gu gA 5 f_19) tb0 tA0 bf0 hi0 ((A1 8) (Int32.toNatClampNeg x2)) ((A1 9) (Int32.toNatClampNeg x2)) (res := z_44) hz_44) gc_OX4_RX1_67_X4_seen rfl u_639 (by decide +kernel) (gF_at (j := 3) hF b_4 kd_25 (by decide)) rfl rfl hRm rfl rfl rfl (by decide) (Nat.le_of_ble_eq_true rfl) (by decide) dX1_markBy_95 (fun v w hw => ?_)
        obtain ⟨hv9, rfl⟩ := hw; have hv9 := hv9.symm; subst hv9
        refine g_aload_n K dX1_markBy_98 rfl 3 rfl ?_
        refine g_aload_n K dX1_markBy_99 rfl 1 rfl ?_
        refine g_get (v := .ref (r 1 11)) (T := TX10) (ref := "ChiefGrades$World") K hin_X10 2 rfl rfl 11 (by decide) u_187 (Or.inl rfl) rfl dX1_markBy_100 ?_
        refine g_iload_n K dX1_markBy_103 rfl 2 rfl ?_
        obtain ⟨b_45, h⟩ := gi_none h
        refine g_iald (f := (A1 11)) K 19 rfl (ginb_in b_45) dX1_markBy_104 ?_
        obtain ⟨z_46, hz_46, h⟩ := gi_bd h
        refine g_callUiF (n := 1) (owner := "ChiefGrades$Chief") (x := ⟨"ChiefGrades$Chief", "favour", "(I)I"⟩) (As := [.int ((A1 11) (Int32.toNatClampNeg x2))]) (bytes := cX0_favour) (maxL := 2) (ret := (some .int)) K (ctX0_favour_k3 hF (b0 := x3) b_4 kd_25 o0 A0 C0 h0 o1 A1 C1 h1 o2 A2 C2 h2 gs0 (gu gA 5 f_19) tb0 tA0 bf0 hi0 ((A1 11) (Int32.toNatClampNeg x2)) (res := z_46) hz_46) gc_UX4_RX1_74_X0_favour rfl rfl (by decide +kernel) (gF_at (j := 3) hF b_4 kd_25 (by decide)) rfl rfl hRm rfl rfl rfl (by decide) (Nat.le_of_ble_eq_true rfl) (by decide) dX1_markBy_105 (fun v w hw => ?_)
        obtain ⟨hv9, rfl⟩ := hw; have hv9 := hv9.symm; subst hv9
        refine g_iadd K dX1_markBy_108 ?_
        refine g_aload_n K dX1_markBy_109 rfl 1 rfl ?_
        refine g_get (v := .ref h1) (T := TX10) (ref := "ChiefGrades$World") K hin_X10 2 rfl rfl 18 (by decide) u_202 (Or.inl rfl) rfl dX1_markBy_110 ?_
        refine g_aload_n K dX1_markBy_113 rfl 0 rfl ?_
        refine g_get (v := .ref (r 3 5)) (T := TX1) (ref := "ChiefGrades$Grader") K hin_X1 4 rfl rfl 5 (by decide) u_292 (Or.inl rfl) rfl dX1_markBy_114 ?_
        obtain ⟨b_47, h⟩ := gi_none h
        obtain ⟨tx9, sz9, at9, fl9, hrv⟩ := (hF.2 _ b_47).1
        obtain ⟨z_48, hz_48, h⟩ := gi_bd h
        refine g_callViF (As := [.ref (r 3 5)]) (bytes := cX2_raise) (maxL := 9) (ret := (some .int)) K (ctX2_raise hF (b0 := h1) b_47 o0 A0 C0 h0 o1 A1 C1 h1 o2 A2 C2 h2 gs0 (gu gA 5 f_19) tb0 tA0 bf0 hi0 (res := z_48) hz_48) gc_V_RX1_81_X2_raise rfl qv_X2_raise hrv rfl rfl hRm rfl rfl rfl (by decide) (Nat.le_of_ble_eq_true rfl) (by decide) dX1_markBy_117 (fun v w hw => ?_)
        obtain ⟨hv9, rfl⟩ := hw; have hv9 := hv9.symm; subst hv9
        refine g_iadd K dX1_markBy_120 ?_
        obtain rfl := Option.some.inj h
        exact hret _ _ _ _ dX1_markBy_121 rfl ⟨rfl, rfl⟩
      have h := hf9 kd_25; clear ht9 hf9
      obtain ⟨ht9, hf9⟩ := gi_br h; clear h
      by_cases kd_26 : ck F x3 = 4
      · have h := ht9 kd_26; clear ht9 hf9
        obtain ⟨z_49, hz_49, h⟩ := gi_bd h
        refine g_callUiF (n := 2) (owner := "ChiefGrades$Chief") (x := ⟨"ChiefGrades$Chief", "seen", "(II)I"⟩) (As := [.int ((A1 8) (Int32.toNatClampNeg x2)), .int ((A1 9) (Int32.toNatClampNeg x2))]) (bytes := cX0_seen) (maxL := 3) (ret := (some .int)) K (ctX0_seen_k4 hF (b0 := x3) b_4 kd_26 o0 A0 C0 h0 o1 A1 C1 h1 o2 A2 C2 h2 gs0 (gu gA 5 f_19) tb0 tA0 bf0 hi0 ((A1 8) (Int32.toNatClampNeg x2)) ((A1 9) (Int32.toNatClampNeg x2)) (res := z_49) hz_49) gc_UX6_RX1_67_X0_seen rfl rfl (by decide +kernel) (gF_at (j := 4) hF b_4 kd_26 (by decide)) rfl rfl hRm rfl rfl rfl (by decide) (Nat.le_of_ble_eq_true rfl) (by decide) dX1_markBy_95 (fun v w hw => ?_)
        obtain ⟨hv9, rfl⟩ := hw; have hv9 := hv9.symm; subst hv9
        refine g_aload_n K dX1_markBy_98 rfl 3 rfl ?_
        refine g_aload_n K dX1_markBy_99 rfl 1 rfl ?_
        refine g_get (v := .ref (r 1 11)) (T := TX10) (ref := "ChiefGrades$World") K hin_X10 2 rfl rfl 11 (by decide) u_187 (Or.inl rfl) rfl dX1_markBy_100 ?_
        refine g_iload_n K dX1_markBy_103 rfl 2 rfl ?_
        obtain ⟨b_50, h⟩ := gi_none h
        refine g_iald (f := (A1 11)) K 19 rfl (ginb_in b_50) dX1_markBy_104 ?_
        obtain ⟨z_51, hz_51, h⟩ := gi_bd h
        refine g_callOiF (n := 1) (owner := "ChiefGrades$Chief") (x := ⟨"ChiefGrades$Chief", "favour", "(I)I"⟩) (As := [.int ((A1 11) (Int32.toNatClampNeg x2))]) (bytes := cX6_favour) (maxL := 2) (ret := (some .int)) K (ctX6_favour_k4 hF (b0 := x3) b_4 kd_26 o0 A0 C0 h0 o1 A1 C1 h1 o2 A2 C2 h2 gs0 (gu gA 5 f_19) tb0 tA0 bf0 hi0 ((A1 11) (Int32.toNatClampNeg x2)) (res := z_51) hz_51) gc_OX6_RX1_74_X6_favour rfl u_660 (by decide +kernel) (gF_at (j := 4) hF b_4 kd_26 (by decide)) rfl rfl hRm rfl rfl rfl (by decide) (Nat.le_of_ble_eq_true rfl) (by decide) dX1_markBy_105 (fun v w hw => ?_)
        obtain ⟨hv9, rfl⟩ := hw; have hv9 := hv9.symm; subst hv9
        refine g_iadd K dX1_markBy_108 ?_
        refine g_aload_n K dX1_markBy_109 rfl 1 rfl ?_
        refine g_get (v := .ref h1) (T := TX10) (ref := "ChiefGrades$World") K hin_X10 2 rfl rfl 18 (by decide) u_202 (Or.inl rfl) rfl dX1_markBy_110 ?_
        refine g_aload_n K dX1_markBy_113 rfl 0 rfl ?_
        refine g_get (v := .ref (r 3 5)) (T := TX1) (ref := "ChiefGrades$Grader") K hin_X1 4 rfl rfl 5 (by decide) u_292 (Or.inl rfl) rfl dX1_markBy_114 ?_
        obtain ⟨b_52, h⟩ := gi_none h
        obtain ⟨tx9, sz9, at9, fl9, hrv⟩ := (hF.2 _ b_52).1
        obtain ⟨z_53, hz_53, h⟩ := gi_bd h
        refine g_callViF (As := [.ref (r 3 5)]) (bytes := cX2_raise) (maxL := 9) (ret := (some .int)) K (ctX2_raise hF (b0 := h1) b_52 o0 A0 C0 h0 o1 A1 C1 h1 o2 A2 C2 h2 gs0 (gu gA 5 f_19) tb0 tA0 bf0 hi0 (res := z_53) hz_53) gc_V_RX1_81_X2_raise rfl qv_X2_raise hrv rfl rfl hRm rfl rfl rfl (by decide) (Nat.le_of_ble_eq_true rfl) (by decide) dX1_markBy_117 (fun v w hw => ?_)
        obtain ⟨hv9, rfl⟩ := hw; have hv9 := hv9.symm; subst hv9
        refine g_iadd K dX1_markBy_120 ?_
        obtain rfl := Option.some.inj h
        exact hret _ _ _ _ dX1_markBy_121 rfl ⟨rfl, rfl⟩
      have h := hf9 kd_26; clear ht9 hf9
      obtain ⟨ht9, hf9⟩ := gi_br h; clear h
      by_cases kd_27 : ck F x3 = 5
      · have h := ht9 kd_27; clear ht9 hf9
        obtain ⟨z_54, hz_54, h⟩ := gi_bd h
        refine g_callUiF (n := 2) (owner := "ChiefGrades$Chief") (x := ⟨"ChiefGrades$Chief", "seen", "(II)I"⟩) (As := [.int ((A1 8) (Int32.toNatClampNeg x2)), .int ((A1 9) (Int32.toNatClampNeg x2))]) (bytes := cX0_seen) (maxL := 3) (ret := (some .int)) K (ctX0_seen_k5 hF (b0 := x3) b_4 kd_27 o0 A0 C0 h0 o1 A1 C1 h1 o2 A2 C2 h2 gs0 (gu gA 5 f_19) tb0 tA0 bf0 hi0 ((A1 8) (Int32.toNatClampNeg x2)) ((A1 9) (Int32.toNatClampNeg x2)) (res := z_54) hz_54) gc_UX3_RX1_67_X0_seen rfl rfl (by decide +kernel) (gF_at (j := 5) hF b_4 kd_27 (by decide)) rfl rfl hRm rfl rfl rfl (by decide) (Nat.le_of_ble_eq_true rfl) (by decide) dX1_markBy_95 (fun v w hw => ?_)
        obtain ⟨hv9, rfl⟩ := hw; have hv9 := hv9.symm; subst hv9
        refine g_aload_n K dX1_markBy_98 rfl 3 rfl ?_
        refine g_aload_n K dX1_markBy_99 rfl 1 rfl ?_
        refine g_get (v := .ref (r 1 11)) (T := TX10) (ref := "ChiefGrades$World") K hin_X10 2 rfl rfl 11 (by decide) u_187 (Or.inl rfl) rfl dX1_markBy_100 ?_
        refine g_iload_n K dX1_markBy_103 rfl 2 rfl ?_
        obtain ⟨b_55, h⟩ := gi_none h
        refine g_iald (f := (A1 11)) K 19 rfl (ginb_in b_55) dX1_markBy_104 ?_
        obtain ⟨z_56, hz_56, h⟩ := gi_bd h
        refine g_callUiF (n := 1) (owner := "ChiefGrades$Chief") (x := ⟨"ChiefGrades$Chief", "favour", "(I)I"⟩) (As := [.int ((A1 11) (Int32.toNatClampNeg x2))]) (bytes := cX0_favour) (maxL := 2) (ret := (some .int)) K (ctX0_favour_k5 hF (b0 := x3) b_4 kd_27 o0 A0 C0 h0 o1 A1 C1 h1 o2 A2 C2 h2 gs0 (gu gA 5 f_19) tb0 tA0 bf0 hi0 ((A1 11) (Int32.toNatClampNeg x2)) (res := z_56) hz_56) gc_UX3_RX1_74_X0_favour rfl rfl (by decide +kernel) (gF_at (j := 5) hF b_4 kd_27 (by decide)) rfl rfl hRm rfl rfl rfl (by decide) (Nat.le_of_ble_eq_true rfl) (by decide) dX1_markBy_105 (fun v w hw => ?_)
        obtain ⟨hv9, rfl⟩ := hw; have hv9 := hv9.symm; subst hv9
        refine g_iadd K dX1_markBy_108 ?_
        refine g_aload_n K dX1_markBy_109 rfl 1 rfl ?_
        refine g_get (v := .ref h1) (T := TX10) (ref := "ChiefGrades$World") K hin_X10 2 rfl rfl 18 (by decide) u_202 (Or.inl rfl) rfl dX1_markBy_110 ?_
        refine g_aload_n K dX1_markBy_113 rfl 0 rfl ?_
        refine g_get (v := .ref (r 3 5)) (T := TX1) (ref := "ChiefGrades$Grader") K hin_X1 4 rfl rfl 5 (by decide) u_292 (Or.inl rfl) rfl dX1_markBy_114 ?_
        obtain ⟨b_57, h⟩ := gi_none h
        obtain ⟨tx9, sz9, at9, fl9, hrv⟩ := (hF.2 _ b_57).1
        obtain ⟨z_58, hz_58, h⟩ := gi_bd h
        refine g_callViF (As := [.ref (r 3 5)]) (bytes := cX2_raise) (maxL := 9) (ret := (some .int)) K (ctX2_raise hF (b0 := h1) b_57 o0 A0 C0 h0 o1 A1 C1 h1 o2 A2 C2 h2 gs0 (gu gA 5 f_19) tb0 tA0 bf0 hi0 (res := z_58) hz_58) gc_V_RX1_81_X2_raise rfl qv_X2_raise hrv rfl rfl hRm rfl rfl rfl (by decide) (Nat.le_of_ble_eq_true rfl) (by decide) dX1_markBy_117 (fun v w hw => ?_)
        obtain ⟨hv9, rfl⟩ := hw; have hv9 := hv9.symm; subst hv9
        refine g_iadd K dX1_markBy_120 ?_
        obtain rfl := Option.some.inj h
        exact hret _ _ _ _ dX1_markBy_121 rfl ⟨rfl, rfl⟩
      have h := hf9 kd_27; clear ht9 hf9
      have kd_28 := gF_last hF b_4 kd_22 kd_23 kd_24 kd_25 kd_26 kd_27
      obtain ⟨z_59, hz_59, h⟩ := gi_bd h
      refine g_callOiF (n := 2) (owner := "ChiefGrades$Chief") (x := ⟨"ChiefGrades$Chief", "seen", "(II)I"⟩) (As := [.int ((A1 8) (Int32.toNatClampNeg x2)), .int ((A1 9) (Int32.toNatClampNeg x2))]) (bytes := cX4_seen) (maxL := 3) (ret := (some .int)) K (ctX4_seen_k6 hF (b0 := x3) b_4 kd_28 o0 A0 C0 h0 o1 A1 C1 h1 o2 A2 C2 h2 gs0 (gu gA 5 f_19) tb0 tA0 bf0 hi0 ((A1 8) (Int32.toNatClampNeg x2)) ((A1 9) (Int32.toNatClampNeg x2)) (res := z_59) hz_59) gc_OX7_RX1_67_X4_seen rfl u_639 (by decide +kernel) (gF_at (j := 6) hF b_4 kd_28 (by decide)) rfl rfl hRm rfl rfl rfl (by decide) (Nat.le_of_ble_eq_true rfl) (by decide) dX1_markBy_95 (fun v w hw => ?_)
      obtain ⟨hv9, rfl⟩ := hw; have hv9 := hv9.symm; subst hv9
      refine g_aload_n K dX1_markBy_98 rfl 3 rfl ?_
      refine g_aload_n K dX1_markBy_99 rfl 1 rfl ?_
      refine g_get (v := .ref (r 1 11)) (T := TX10) (ref := "ChiefGrades$World") K hin_X10 2 rfl rfl 11 (by decide) u_187 (Or.inl rfl) rfl dX1_markBy_100 ?_
      refine g_iload_n K dX1_markBy_103 rfl 2 rfl ?_
      obtain ⟨b_60, h⟩ := gi_none h
      refine g_iald (f := (A1 11)) K 19 rfl (ginb_in b_60) dX1_markBy_104 ?_
      obtain ⟨z_61, hz_61, h⟩ := gi_bd h
      refine g_callOiF (n := 1) (owner := "ChiefGrades$Chief") (x := ⟨"ChiefGrades$Chief", "favour", "(I)I"⟩) (As := [.int ((A1 11) (Int32.toNatClampNeg x2))]) (bytes := cX7_favour) (maxL := 2) (ret := (some .int)) K (ctX7_favour_k6 hF (b0 := x3) b_4 kd_28 o0 A0 C0 h0 o1 A1 C1 h1 o2 A2 C2 h2 gs0 (gu gA 5 f_19) tb0 tA0 bf0 hi0 ((A1 11) (Int32.toNatClampNeg x2)) (res := z_61) hz_61) gc_OX7_RX1_74_X7_favour rfl u_660 (by decide +kernel) (gF_at (j := 6) hF b_4 kd_28 (by decide)) rfl rfl hRm rfl rfl rfl (by decide) (Nat.le_of_ble_eq_true rfl) (by decide) dX1_markBy_105 (fun v w hw => ?_)
      obtain ⟨hv9, rfl⟩ := hw; have hv9 := hv9.symm; subst hv9
      refine g_iadd K dX1_markBy_108 ?_
      refine g_aload_n K dX1_markBy_109 rfl 1 rfl ?_
      refine g_get (v := .ref h1) (T := TX10) (ref := "ChiefGrades$World") K hin_X10 2 rfl rfl 18 (by decide) u_202 (Or.inl rfl) rfl dX1_markBy_110 ?_
      refine g_aload_n K dX1_markBy_113 rfl 0 rfl ?_
      refine g_get (v := .ref (r 3 5)) (T := TX1) (ref := "ChiefGrades$Grader") K hin_X1 4 rfl rfl 5 (by decide) u_292 (Or.inl rfl) rfl dX1_markBy_114 ?_
      obtain ⟨b_62, h⟩ := gi_none h
      obtain ⟨tx9, sz9, at9, fl9, hrv⟩ := (hF.2 _ b_62).1
      obtain ⟨z_63, hz_63, h⟩ := gi_bd h
      refine g_callViF (As := [.ref (r 3 5)]) (bytes := cX2_raise) (maxL := 9) (ret := (some .int)) K (ctX2_raise hF (b0 := h1) b_62 o0 A0 C0 h0 o1 A1 C1 h1 o2 A2 C2 h2 gs0 (gu gA 5 f_19) tb0 tA0 bf0 hi0 (res := z_63) hz_63) gc_V_RX1_81_X2_raise rfl qv_X2_raise hrv rfl rfl hRm rfl rfl rfl (by decide) (Nat.le_of_ble_eq_true rfl) (by decide) dX1_markBy_117 (fun v w hw => ?_)
      obtain ⟨hv9, rfl⟩ := hw; have hv9 := hv9.symm; subst hv9
      refine g_iadd K dX1_markBy_120 ?_
      obtain rfl := Option.some.inj h
      exact hret _ _ _ _ dX1_markBy_121 rfl ⟨rfl, rfl⟩
    · have h := ht9 qh; clear ht9 hf9
      refine g_iconst (v := 0) K dX1_markBy_8 (by decide) ?_
      obtain rfl := Option.some.inj h
      exact hret _ _ _ _ dX1_markBy_9 rfl ⟨rfl, rfl⟩

set_option maxRecDepth 100000 in
theorem ctX1_markBy_w1 {E : gE} {q : Nat → Nat} {r : Nat → Nat → Nat} {F : gF} (hF : gFz E F) (o0 : Nat → Int32) (A0 : Nat → Nat → Int32) (C0 : Nat → Option Nat) (h0 : Nat) (o1 : Nat → Int32) (A1 : Nat → Nat → Int32) (C1 : Nat → Option Nat) (h1 : Nat) (o2 : Nat → Int32) (A2 : Nat → Nat → Int32) (C2 : Nat → Option Nat) (h2 : Nat) (gs0 : Int32) (gA : Nat → Nat → Int32) (tb0 : Int32) (tA0 bf0 : Nat → Int32) (hi0 : Int32) (x2 : Int32) (x3 : Nat) {res : Int32 × ((Nat → Int32))} (h : pX1_markBy_w1 F (o1 0) (o1 5) (A1 8) (A1 9) (A1 10) (A1 11) h1 (gA 5) x2 x3 = some res) : gMi yX1_markBy (.code yX1_markBy cX1_markBy 4 (some .int) :: gU) ({ frames := 6, cells := 0, slots := 0, locals := 192 } : Room) 0 0 E [.ref (q 3), .ref (q 1), .int x2, .ref x3] (cw E q r (gpl F) o0 A0 C0 h0 o1 A1 C1 h1 o2 A2 C2 h2 gs0 gA tb0 tA0 bf0 hi0) (fun v w => v = res.1 ∧ w = cw E q r (gpl F) o0 A0 C0 h0 o1 A1 C1 h1 o2 A2 C2 h2 gs0 (gu gA 5 res.2) tb0 tA0 bf0 hi0) := by
  refine g_met_i (by decide +kernel) (Nat.le_of_ble_eq_true rfl) (fun Γ K hn hE hRm _ hret => ?_)
  subst hE
  have hlt : ∀ i, i < 4 → i < g_n Γ := fun i q => by rw [hn]; exact q
  refine g_ws (ws' := cw (g_E Γ) q r (gpl F) o0 A0 C0 h0 o1 A1 C1 h1 o2 A2 C2 h2 gs0 (gu gA 5 (gA 5)) tb0 tA0 bf0 hi0) rfl ?_
  refine g_sub (L' := [(0, .ref (q 3)), (1, .ref (q 1)), (2, .int x2), (3, .ref x3)]) [0, 1, 2, 3] rfl ?_
  exact wX1_markBy_w1 (C0 := C0) (h0 := h0) (C1 := C1) (h1 := h1) (C2 := C2) (h2 := h2) (gs0 := gs0) (tb0 := tb0) (tA0 := tA0) (bf0 := bf0) (hi0 := hi0) hF K hlt hRm hret (gA 5) x2 x3 h

set_option maxHeartbeats 4000000 in
set_option maxRecDepth 100000 in
theorem wX1_markTeam_w1_2 {Γ : gT} {q : Nat → Nat} {r : Nat → Nat → Nat} {F : gF} (hF : gFz (g_E Γ) F) {o0 : Nat → Int32} {A0 : Nat → Nat → Int32} {C0 : Nat → Option Nat} {h0 : Nat} {o1 : Nat → Int32} {A1 : Nat → Nat → Int32} {C1 : Nat → Option Nat} {h1 : Nat} {o2 : Nat → Int32} {A2 : Nat → Nat → Int32} {C2 : Nat → Option Nat} {h2 : Nat} {gs0 : Int32} {gA : Nat → Nat → Int32} {tb0 : Int32} {tA0 bf0 : Nat → Int32} {hi0 : Int32} (K : gOK Γ cX1_markTeam gU RX1) (hlt : ∀ i, i < 4 → i < g_n Γ) (hRm : g_R Γ = ({ frames := 7, cells := 0, slots := 0, locals := 215 } : Room)) {res : ((Nat → Int32)) × ((Nat → Int32))} (hret : ∀ (pc : Nat) (L : List (Nat × Value)) (w : va_W), decode cX1_markTeam pc = .ok (.return_, 1) → (w = cw (g_E Γ) q r (gpl F) o0 A0 C0 h0 o1 A1 C1 h1 o2 A2 C2 h2 gs0 (gu (gu gA 1 res.1) 5 res.2) tb0 tA0 bf0 hi0) → gGO Γ 0 0 pc L [] w) : ∀ (n : Nat) (ga1 : (Nat → Int32)) (ga5 : (Nat → Int32)) (x2 : Nat) (x3 : Int32), pX1_markTeam_w1_2 F (o1 0) (o1 5) (A1 8) (A1 9) (A1 10) (A1 11) h1 gs0 (gA 2) n ga1 ga5 x2 x3 = some res → gGO Γ 0 0 2 [(0, .ref (q 3)), (1, .ref (q 1)), (2, .ref x2), (3, .int x3)] [] (cw (g_E Γ) q r (gpl F) o0 A0 C0 h0 o1 A1 C1 h1 o2 A2 C2 h2 gs0 (gu (gu gA 1 ga1) 5 ga5) tb0 tA0 bf0 hi0) := by
  intro n
  induction n with
  | zero => intro _ _ _ _ h; cases h
  | succ n ih =>
    intro ga1 ga5 x2 x3 h
    simp only [pX1_markTeam_w1_2] at h
    refine g_iload_n K dX1_markTeam_2 rfl 3 rfl ?_
    refine g_aload_n K dX1_markTeam_3 rfl 0 rfl ?_
    refine g_get (v := .int gs0) (T := TX1) (ref := "ChiefGrades$Grader") K hin_X1 4 rfl rfl 4 (by decide) u_291 (Or.inl rfl) rfl dX1_markTeam_4 ?_
    obtain ⟨ht9, hf9⟩ := gi_br h; clear h
    refine g_icmp_ge (tgt := 39) K dX1_markTeam_7 (by decide) (fun qh => ?_) (fun qh => ?_)
    · have h := ht9 qh; clear ht9 hf9
      obtain rfl := Option.some.inj h
      exact hret _ _ _ dX1_markTeam_39 rfl
    · have h := hf9 qh; clear ht9 hf9
      refine g_aload_n K dX1_markTeam_10 rfl 0 rfl ?_
      refine g_get (v := .ref (r 3 1)) (T := TX1) (ref := "ChiefGrades$Grader") K hin_X1 4 rfl rfl 1 (by decide) u_288 (Or.inl rfl) rfl dX1_markTeam_11 ?_
      refine g_aload_n K dX1_markTeam_14 rfl 0 rfl ?_
      refine g_get (v := .ref (r 3 2)) (T := TX1) (ref := "ChiefGrades$Grader") K hin_X1 4 rfl rfl 2 (by decide) u_289 (Or.inl rfl) rfl dX1_markTeam_15 ?_
      refine g_iload_n K dX1_markTeam_18 rfl 3 rfl ?_
      obtain ⟨b_1, h⟩ := gi_none h
      refine g_iald (f := (gA 2)) K 38 rfl (ginb_in b_1) dX1_markTeam_19 ?_
      refine g_aload_n K dX1_markTeam_20 rfl 0 rfl ?_
      refine g_aload_n K dX1_markTeam_21 rfl 1 rfl ?_
      refine g_aload_n K dX1_markTeam_22 rfl 0 rfl ?_
      refine g_get (v := .ref (r 3 2)) (T := TX1) (ref := "ChiefGrades$Grader") K hin_X1 4 rfl rfl 2 (by decide) u_289 (Or.inl rfl) rfl dX1_markTeam_23 ?_
      refine g_iload_n K dX1_markTeam_26 rfl 3 rfl ?_
      obtain ⟨b_2, h⟩ := gi_none h
      refine g_iald (f := (gA 2)) K 38 rfl (ginb_in b_2) dX1_markTeam_27 ?_
      refine g_aload_n K dX1_markTeam_28 rfl 2 rfl ?_
      obtain ⟨z_3, hz_3, h⟩ := gi_bd h
      refine g_callVi (As := [.ref (q 1), .int ((gA 2) (Int32.toNatClampNeg x3)), .ref x2]) (bytes := cX1_markBy) (maxL := 4) (ret := (some .int)) K (ctX1_markBy_w1 hF o0 A0 C0 h0 o1 A1 C1 h1 o2 A2 C2 h2 gs0 (gu (gu gA 1 ga1) 5 ga5) tb0 tA0 bf0 hi0 ((gA 2) (Int32.toNatClampNeg x3)) x2 (res := z_3) hz_3) gc_V_RX1_122_X1_markBy rfl qv_X1_markBy 4 rfl rfl rfl hRm rfl rfl rfl (by decide) (Nat.le_of_ble_eq_true rfl) (by decide) dX1_markTeam_29 (fun v w hw => ?_)
      obtain ⟨hv9, rfl⟩ := hw; have hv9 := hv9.symm; subst hv9
      refine g_ws (ws' := cw (g_E Γ) q r (gpl F) o0 A0 C0 h0 o1 A1 C1 h1 o2 A2 C2 h2 gs0 (gu (gu gA 1 ga1) 5 z_3.2) tb0 tA0 bf0 hi0) rfl ?_
      obtain ⟨b_4, h⟩ := gi_none h
      obtain ⟨f_5, ef_5, h⟩ := gi_nm h
      refine g_iast (f := ga1) (ws' := cw (g_E Γ) q r (gpl F) o0 A0 C0 h0 o1 A1 C1 h1 o2 A2 C2 h2 gs0 (gu (gu gA 1 f_5) 5 z_3.2) tb0 tA0 bf0 hi0) K 37 rfl (ginb_in b_4) dX1_markTeam_32 (by rw [ef_5]; rfl) ?_
      refine g_iinc (v := (x3 + 1)) (L' := [(3, .int (x3 + 1)), (0, .ref (q 3)), (1, .ref (q 1)), (2, .ref x2)]) K dX1_markTeam_33 3 rfl rfl (hlt _ (by decide)) rfl ?_
      refine g_goto (tgt := 2) K dX1_markTeam_36 (by decide) ?_
      refine g_sub (L' := [(0, .ref (q 3)), (1, .ref (q 1)), (2, .ref x2), (3, .int (x3 + 1))]) [1, 2, 3, 0] rfl ?_
      exact ih f_5 z_3.2 x2 (x3 + 1) h

set_option maxHeartbeats 4000000 in
set_option maxRecDepth 100000 in
theorem wX1_markTeam_w1 {Γ : gT} {q : Nat → Nat} {r : Nat → Nat → Nat} {F : gF} (hF : gFz (g_E Γ) F) {o0 : Nat → Int32} {A0 : Nat → Nat → Int32} {C0 : Nat → Option Nat} {h0 : Nat} {o1 : Nat → Int32} {A1 : Nat → Nat → Int32} {C1 : Nat → Option Nat} {h1 : Nat} {o2 : Nat → Int32} {A2 : Nat → Nat → Int32} {C2 : Nat → Option Nat} {h2 : Nat} {gs0 : Int32} {gA : Nat → Nat → Int32} {tb0 : Int32} {tA0 bf0 : Nat → Int32} {hi0 : Int32} (K : gOK Γ cX1_markTeam gU RX1) (hlt : ∀ i, i < 4 → i < g_n Γ) (hRm : g_R Γ = ({ frames := 7, cells := 0, slots := 0, locals := 215 } : Room)) {res : ((Nat → Int32)) × ((Nat → Int32))} (hret : ∀ (pc : Nat) (L : List (Nat × Value)) (w : va_W), decode cX1_markTeam pc = .ok (.return_, 1) → (w = cw (g_E Γ) q r (gpl F) o0 A0 C0 h0 o1 A1 C1 h1 o2 A2 C2 h2 gs0 (gu (gu gA 1 res.1) 5 res.2) tb0 tA0 bf0 hi0) → gGO Γ 0 0 pc L [] w) (ga1 : (Nat → Int32)) (ga5 : (Nat → Int32)) (x2 : Nat) (h : pX1_markTeam_w1 F (o1 0) (o1 5) (A1 8) (A1 9) (A1 10) (A1 11) h1 gs0 (gA 2) ga1 ga5 x2 = some res) : gGO Γ 0 0 0 [(0, .ref (q 3)), (1, .ref (q 1)), (2, .ref x2)] [] (cw (g_E Γ) q r (gpl F) o0 A0 C0 h0 o1 A1 C1 h1 o2 A2 C2 h2 gs0 (gu (gu gA 1 ga1) 5 ga5) tb0 tA0 bf0 hi0) := by
    unfold pX1_markTeam_w1 at h
    refine g_iconst (v := 0) K dX1_markTeam_0 (by decide) ?_
    refine g_istore_n (L' := [(3, .int 0), (0, .ref (q 3)), (1, .ref (q 1)), (2, .ref x2)]) K dX1_markTeam_1 rfl (hlt _ (by decide)) rfl ?_
    refine g_sub (L' := [(0, .ref (q 3)), (1, .ref (q 1)), (2, .ref x2), (3, .int 0)]) [1, 2, 3, 0] rfl ?_
    exact wX1_markTeam_w1_2 (C0 := C0) (h0 := h0) (C1 := C1) (h1 := h1) (C2 := C2) (h2 := h2) (gs0 := gs0) (tb0 := tb0) (tA0 := tA0) (bf0 := bf0) (hi0 := hi0) hF K hlt hRm hret 1000 ga1 ga5 x2 0 h

set_option maxRecDepth 100000 in
theorem ctX1_markTeam_w1 {E : gE} {q : Nat → Nat} {r : Nat → Nat → Nat} {F : gF} (hF : gFz E F) (o0 : Nat → Int32) (A0 : Nat → Nat → Int32) (C0 : Nat → Option Nat) (h0 : Nat) (o1 : Nat → Int32) (A1 : Nat → Nat → Int32) (C1 : Nat → Option Nat) (h1 : Nat) (o2 : Nat → Int32) (A2 : Nat → Nat → Int32) (C2 : Nat → Option Nat) (h2 : Nat) (gs0 : Int32) (gA : Nat → Nat → Int32) (tb0 : Int32) (tA0 bf0 : Nat → Int32) (hi0 : Int32) (x2 : Nat) {res : ((Nat → Int32)) × ((Nat → Int32))} (h : pX1_markTeam_w1 F (o1 0) (o1 5) (A1 8) (A1 9) (A1 10) (A1 11) h1 gs0 (gA 2) (gA 1) (gA 5) x2 = some res) : gMv yX1_markTeam (.code yX1_markTeam cX1_markTeam 4 none :: gU) ({ frames := 7, cells := 0, slots := 0, locals := 215 } : Room) 0 0 E [.ref (q 3), .ref (q 1), .ref x2] (cw E q r (gpl F) o0 A0 C0 h0 o1 A1 C1 h1 o2 A2 C2 h2 gs0 gA tb0 tA0 bf0 hi0) (fun w => w = cw E q r (gpl F) o0 A0 C0 h0 o1 A1 C1 h1 o2 A2 C2 h2 gs0 (gu (gu gA 1 res.1) 5 res.2) tb0 tA0 bf0 hi0) := by
  refine g_met_v (by decide +kernel) (Nat.le_of_ble_eq_true rfl) (fun Γ K hn hE hRm _ hret => ?_)
  subst hE
  have hlt : ∀ i, i < 4 → i < g_n Γ := fun i q => by rw [hn]; exact q
  refine g_ws (ws' := cw (g_E Γ) q r (gpl F) o0 A0 C0 h0 o1 A1 C1 h1 o2 A2 C2 h2 gs0 (gu (gu gA 1 (gA 1)) 5 (gA 5)) tb0 tA0 bf0 hi0) rfl ?_
  refine g_sub (L' := [(0, .ref (q 3)), (1, .ref (q 1)), (2, .ref x2)]) [0, 1, 2] rfl ?_
  exact wX1_markTeam_w1 (C0 := C0) (h0 := h0) (C1 := C1) (h1 := h1) (C2 := C2) (h2 := h2) (gs0 := gs0) (tb0 := tb0) (tA0 := tA0) (bf0 := bf0) (hi0 := hi0) hF K hlt hRm hret (gA 1) (gA 5) x2 h

set_option maxHeartbeats 4000000 in
set_option maxRecDepth 100000 in
theorem wX1_share_w1_181 {Γ : gT} {q : Nat → Nat} {r : Nat → Nat → Nat} {F : gF} (hF : gFz (g_E Γ) F) {o0 : Nat → Int32} {A0 : Nat → Nat → Int32} {C0 : Nat → Option Nat} {h0 : Nat} {o1 : Nat → Int32} {A1 : Nat → Nat → Int32} {C1 : Nat → Option Nat} {h1 : Nat} {o2 : Nat → Int32} {A2 : Nat → Nat → Int32} {C2 : Nat → Option Nat} {h2 : Nat} {gs0 : Int32} {gA : Nat → Nat → Int32} {tb0 : Int32} {tA0 bf0 : Nat → Int32} {hi0 : Int32} (K : gOK Γ cX1_share gU RX1) (hlt : ∀ i, i < 8 → i < g_n Γ) (hRm : g_R Γ = ({ frames := 6, cells := 0, slots := 0, locals := 203 } : Room)) {res : Int32 × ((Nat → Int32)) × ((Nat → Int32))} (hret : ∀ (pc : Nat) (L : List (Nat × Value)) (v : Int32) (w : va_W), decode cX1_share pc = .ok (.ireturn, 1) → narrow .int (.int v) = .int v → (v = res.1 ∧ w = cw (g_E Γ) q r (gpl F) o0 A0 C0 h0 o1 A1 C1 h1 o2 A2 C2 h2 gs0 (gu (gu gA 0 res.2.1) 3 res.2.2) tb0 tA0 bf0 hi0) → gGO Γ 0 0 pc L [.int v] w) : ∀ (n : Nat) (ga0 : (Nat → Int32)) (ga3 : (Nat → Int32)) (x5 : Int32) (x6 : Int32), pX1_share_w1_181 F (o1 5) h1 gs0 (gA 1) (gA 2) n ga0 ga3 x5 x6 = some res → gGO Γ 0 0 181 [(0, .ref (q 3)), (5, .int x5), (6, .int x6)] [] (cw (g_E Γ) q r (gpl F) o0 A0 C0 h0 o1 A1 C1 h1 o2 A2 C2 h2 gs0 (gu (gu gA 0 ga0) 3 ga3) tb0 tA0 bf0 hi0) := by
  intro n
  induction n with
  | zero => intro _ _ _ _ h; cases h
  | succ n ih =>
    intro ga0 ga3 x5 x6 h
    simp only [pX1_share_w1_181] at h
    refine g_iload K dX1_share_181 2 rfl ?_
    refine g_aload_n K dX1_share_183 rfl 0 rfl ?_
    refine g_get (v := .int gs0) (T := TX1) (ref := "ChiefGrades$Grader") K hin_X1 4 rfl rfl 4 (by decide) u_291 (Or.inl rfl) rfl dX1_share_184 ?_
    obtain ⟨ht9, hf9⟩ := gi_br h; clear h
    refine g_icmp_ge (tgt := 213) K dX1_share_187 (by decide) (fun qh => ?_) (fun qh => ?_)
    · have h := ht9 qh; clear ht9 hf9
      refine g_iload K dX1_share_213 1 rfl ?_
      obtain rfl := Option.some.inj h
      exact hret _ _ _ _ dX1_share_215 rfl ⟨rfl, rfl⟩
    · have h := hf9 qh; clear ht9 hf9
      refine g_iload K dX1_share_190 1 rfl ?_
      refine g_aload_n K dX1_share_192 rfl 0 rfl ?_
      refine g_get (v := .ref (r 3 0)) (T := TX1) (ref := "ChiefGrades$Grader") K hin_X1 4 rfl rfl 0 (by decide) u_286 (Or.inl rfl) rfl dX1_share_193 ?_
      refine g_aload_n K dX1_share_196 rfl 0 rfl ?_
      refine g_get (v := .ref (r 3 2)) (T := TX1) (ref := "ChiefGrades$Grader") K hin_X1 4 rfl rfl 2 (by decide) u_289 (Or.inl rfl) rfl dX1_share_197 ?_
      refine g_iload K dX1_share_200 2 rfl ?_
      obtain ⟨b_1, h⟩ := gi_none h
      refine g_iald (f := (gA 2)) K 38 rfl (ginb_in b_1) dX1_share_202 ?_
      obtain ⟨b_2, h⟩ := gi_none h
      refine g_iald (f := ga0) K 36 rfl (ginb_in b_2) dX1_share_203 ?_
      refine g_iadd K dX1_share_204 ?_
      obtain ⟨v_3, ev_3, h⟩ := gi_nm h
      refine g_topi ev_3 ?_
      refine g_istore (L' := [(5, .int v_3), (0, .ref (q 3)), (6, .int x6)]) K dX1_share_205 (hlt _ (by decide)) rfl ?_
      refine g_iinc (v := (x6 + 1)) (L' := [(6, .int (x6 + 1)), (5, .int v_3), (0, .ref (q 3))]) K dX1_share_207 2 rfl rfl (hlt _ (by decide)) rfl ?_
      refine g_goto (tgt := 181) K dX1_share_210 (by decide) ?_
      refine g_sub (L' := [(0, .ref (q 3)), (5, .int v_3), (6, .int (x6 + 1))]) [2, 1, 0] rfl ?_
      exact ih ga0 ga3 v_3 (x6 + 1) h

set_option maxHeartbeats 4000000 in
set_option maxRecDepth 100000 in
theorem wX1_share_w1_149 {Γ : gT} {q : Nat → Nat} {r : Nat → Nat → Nat} {F : gF} (hF : gFz (g_E Γ) F) {o0 : Nat → Int32} {A0 : Nat → Nat → Int32} {C0 : Nat → Option Nat} {h0 : Nat} {o1 : Nat → Int32} {A1 : Nat → Nat → Int32} {C1 : Nat → Option Nat} {h1 : Nat} {o2 : Nat → Int32} {A2 : Nat → Nat → Int32} {C2 : Nat → Option Nat} {h2 : Nat} {gs0 : Int32} {gA : Nat → Nat → Int32} {tb0 : Int32} {tA0 bf0 : Nat → Int32} {hi0 : Int32} (K : gOK Γ cX1_share gU RX1) (hlt : ∀ i, i < 8 → i < g_n Γ) (hRm : g_R Γ = ({ frames := 6, cells := 0, slots := 0, locals := 203 } : Room)) {res : Int32 × ((Nat → Int32)) × ((Nat → Int32))} (hret : ∀ (pc : Nat) (L : List (Nat × Value)) (v : Int32) (w : va_W), decode cX1_share pc = .ok (.ireturn, 1) → narrow .int (.int v) = .int v → (v = res.1 ∧ w = cw (g_E Γ) q r (gpl F) o0 A0 C0 h0 o1 A1 C1 h1 o2 A2 C2 h2 gs0 (gu (gu gA 0 res.2.1) 3 res.2.2) tb0 tA0 bf0 hi0) → gGO Γ 0 0 pc L [.int v] w) : ∀ (n : Nat) (ga0 : (Nat → Int32)) (ga3 : (Nat → Int32)) (x4 : Int32) (x5 : Int32), pX1_share_w1_149 F (o1 5) h1 gs0 (gA 1) (gA 2) n ga0 ga3 x4 x5 = some res → gGO Γ 0 0 149 [(0, .ref (q 3)), (4, .int x4), (5, .int x5)] [] (cw (g_E Γ) q r (gpl F) o0 A0 C0 h0 o1 A1 C1 h1 o2 A2 C2 h2 gs0 (gu (gu gA 0 ga0) 3 ga3) tb0 tA0 bf0 hi0) := by
  intro n
  induction n with
  | zero => intro _ _ _ _ h; cases h
  | succ n ih =>
    intro ga0 ga3 x4 x5 h
    simp only [pX1_share_w1_149] at h
    refine g_iload K dX1_share_149 2 rfl ?_
    refine g_iload K dX1_share_151 1 rfl ?_
    obtain ⟨ht9, hf9⟩ := gi_br h; clear h
    refine g_icmp_ge (tgt := 175) K dX1_share_153 (by decide) (fun qh => ?_) (fun qh => ?_)
    · have h := ht9 qh; clear ht9 hf9
      refine g_iconst (v := 0) K dX1_share_175 (by decide) ?_
      refine g_istore (L' := [(5, .int 0), (0, .ref (q 3)), (4, .int x4)]) K dX1_share_176 (hlt _ (by decide)) rfl ?_
      refine g_iconst (v := 0) K dX1_share_178 (by decide) ?_
      refine g_istore (L' := [(6, .int 0), (5, .int 0), (0, .ref (q 3)), (4, .int x4)]) K dX1_share_179 (hlt _ (by decide)) rfl ?_
      refine g_sub (L' := [(0, .ref (q 3)), (5, .int 0), (6, .int 0)]) [2, 1, 0] rfl ?_
      exact wX1_share_w1_181 (C0 := C0) (h0 := h0) (C1 := C1) (h1 := h1) (C2 := C2) (h2 := h2) (gs0 := gs0) (tb0 := tb0) (tA0 := tA0) (bf0 := bf0) (hi0 := hi0) hF K hlt hRm hret 1000 ga0 ga3 0 0 h
    · have h := hf9 qh; clear ht9 hf9
      refine g_aload_n K dX1_share_156 rfl 0 rfl ?_
      refine g_get (v := .ref (r 3 0)) (T := TX1) (ref := "ChiefGrades$Grader") K hin_X1 4 rfl rfl 0 (by decide) u_286 (Or.inl rfl) rfl dX1_share_157 ?_
      refine g_aload_n K dX1_share_160 rfl 0 rfl ?_
      refine g_get (v := .ref (r 3 3)) (T := TX1) (ref := "ChiefGrades$Grader") K hin_X1 4 rfl rfl 3 (by decide) u_290 (Or.inl rfl) rfl dX1_share_161 ?_
      refine g_iload K dX1_share_164 2 rfl ?_
      obtain ⟨b_1, h⟩ := gi_none h
      refine g_iald (f := ga3) K 39 rfl (ginb_in b_1) dX1_share_166 ?_
      refine g_iconst (v := 1) K dX1_share_167 (by decide) ?_
      obtain ⟨b_2, h⟩ := gi_none h
      obtain ⟨f_3, ef_3, h⟩ := gi_nm h
      refine g_iast (f := ga0) (ws' := cw (g_E Γ) q r (gpl F) o0 A0 C0 h0 o1 A1 C1 h1 o2 A2 C2 h2 gs0 (gu (gu gA 0 f_3) 3 ga3) tb0 tA0 bf0 hi0) K 36 rfl (ginb_in b_2) dX1_share_168 (by rw [ef_3]; rfl) ?_
      refine g_iinc (v := (x5 + 1)) (L' := [(5, .int (x5 + 1)), (0, .ref (q 3)), (4, .int x4)]) K dX1_share_169 2 rfl rfl (hlt _ (by decide)) rfl ?_
      refine g_goto (tgt := 149) K dX1_share_172 (by decide) ?_
      refine g_sub (L' := [(0, .ref (q 3)), (4, .int x4), (5, .int (x5 + 1))]) [1, 2, 0] rfl ?_
      exact ih f_3 ga3 x4 (x5 + 1) h

set_option maxHeartbeats 4000000 in
set_option maxRecDepth 100000 in
theorem wX1_share_w1_126 {Γ : gT} {q : Nat → Nat} {r : Nat → Nat → Nat} {F : gF} (hF : gFz (g_E Γ) F) {o0 : Nat → Int32} {A0 : Nat → Nat → Int32} {C0 : Nat → Option Nat} {h0 : Nat} {o1 : Nat → Int32} {A1 : Nat → Nat → Int32} {C1 : Nat → Option Nat} {h1 : Nat} {o2 : Nat → Int32} {A2 : Nat → Nat → Int32} {C2 : Nat → Option Nat} {h2 : Nat} {gs0 : Int32} {gA : Nat → Nat → Int32} {tb0 : Int32} {tA0 bf0 : Nat → Int32} {hi0 : Int32} (K : gOK Γ cX1_share gU RX1) (hlt : ∀ i, i < 8 → i < g_n Γ) (hRm : g_R Γ = ({ frames := 6, cells := 0, slots := 0, locals := 203 } : Room)) {res : Int32 × ((Nat → Int32)) × ((Nat → Int32))} (hret : ∀ (pc : Nat) (L : List (Nat × Value)) (v : Int32) (w : va_W), decode cX1_share pc = .ok (.ireturn, 1) → narrow .int (.int v) = .int v → (v = res.1 ∧ w = cw (g_E Γ) q r (gpl F) o0 A0 C0 h0 o1 A1 C1 h1 o2 A2 C2 h2 gs0 (gu (gu gA 0 res.2.1) 3 res.2.2) tb0 tA0 bf0 hi0) → gGO Γ 0 0 pc L [.int v] w) (ga0 : (Nat → Int32)) (ga3 : (Nat → Int32)) (x2 : Nat) (x4 : Int32) (h : pX1_share_w1_126 F (o1 5) h1 gs0 (gA 1) (gA 2) ga0 ga3 x2 x4 = some res) : gGO Γ 0 0 126 [(0, .ref (q 3)), (1, .ref (q 1)), (2, .ref x2), (4, .int x4)] [] (cw (g_E Γ) q r (gpl F) o0 A0 C0 h0 o1 A1 C1 h1 o2 A2 C2 h2 gs0 (gu (gu gA 0 ga0) 3 ga3) tb0 tA0 bf0 hi0) := by
    unfold pX1_share_w1_126 at h
    refine g_aload_n K dX1_share_126 rfl 2 rfl ?_
    refine g_aload_n K dX1_share_127 rfl 0 rfl ?_
    refine g_get (v := .ref (r 3 2)) (T := TX1) (ref := "ChiefGrades$Grader") K hin_X1 4 rfl rfl 2 (by decide) u_289 (Or.inl rfl) rfl dX1_share_128 ?_
    refine g_aload_n K dX1_share_131 rfl 0 rfl ?_
    refine g_get (v := .int gs0) (T := TX1) (ref := "ChiefGrades$Grader") K hin_X1 4 rfl rfl 4 (by decide) u_291 (Or.inl rfl) rfl dX1_share_132 ?_
    refine g_aload_n K dX1_share_135 rfl 1 rfl ?_
    refine g_get (v := .int (o1 5)) (T := TX10) (ref := "ChiefGrades$World") K hin_X10 2 rfl rfl 5 (by decide) u_171 (Or.inl rfl) rfl dX1_share_136 ?_
    refine g_aload_n K dX1_share_139 rfl 0 rfl ?_
    refine g_get (v := .ref (r 3 3)) (T := TX1) (ref := "ChiefGrades$Grader") K hin_X1 4 rfl rfl 3 (by decide) u_290 (Or.inl rfl) rfl dX1_share_140 ?_
    obtain ⟨b_1, h⟩ := gi_none h
    obtain ⟨ht9, hf9⟩ := gi_br h; clear h
    by_cases kd_2 : ck F x2 = 0
    · have h := ht9 kd_2; clear ht9 hf9
      obtain ⟨z_9, hz_9, h⟩ := gi_bd h
      refine g_callVvF (As := [.ref (r 3 2), .int gs0, .int (o1 5), .ref (r 3 3)]) (bytes := cX0_lineUp) (maxL := 5) (ret := none) K (ctX0_lineUp_k0 hF (b0 := x2) b_1 kd_2 o0 A0 C0 h0 o1 A1 C1 h1 o2 A2 C2 h2 gs0 (gu (gu gA 0 ga0) 3 ga3) tb0 tA0 bf0 hi0 gs0 (o1 5) (res := z_9) hz_9) gc_V_RX1_143_X0_lineUp rfl qv_X0_lineUp (gF_at (j := 0) hF b_1 kd_2 (by decide)) rfl rfl hRm rfl rfl rfl (by decide) (Nat.le_of_ble_eq_true rfl) (by decide) dX1_share_143 (fun w hw => ?_)
      subst hw
      refine g_iconst (v := 0) K dX1_share_146 (by decide) ?_
      refine g_istore (L' := [(5, .int 0), (0, .ref (q 3)), (1, .ref (q 1)), (2, .ref x2), (4, .int x4)]) K dX1_share_147 (hlt _ (by decide)) rfl ?_
      refine g_sub (L' := [(0, .ref (q 3)), (4, .int x4), (5, .int 0)]) [1, 4, 0] rfl ?_
      exact wX1_share_w1_149 (C0 := C0) (h0 := h0) (C1 := C1) (h1 := h1) (C2 := C2) (h2 := h2) (gs0 := gs0) (tb0 := tb0) (tA0 := tA0) (bf0 := bf0) (hi0 := hi0) hF K hlt hRm hret 1000 ga0 ga3 x4 0 h
    have h := hf9 kd_2; clear ht9 hf9
    obtain ⟨ht9, hf9⟩ := gi_br h; clear h
    by_cases kd_3 : ck F x2 = 1
    · have h := ht9 kd_3; clear ht9 hf9
      obtain ⟨z_10, hz_10, h⟩ := gi_bd h
      refine g_callUvF (n := 4) (owner := "ChiefGrades$Chief") (x := ⟨"ChiefGrades$Chief", "lineUp", "([III[I)V"⟩) (As := [.ref (r 3 2), .int gs0, .int (o1 5), .ref (r 3 3)]) (bytes := cX0_lineUp) (maxL := 5) (ret := none) K (ctX0_lineUp_k1 hF (b0 := x2) b_1 kd_3 o0 A0 C0 h0 o1 A1 C1 h1 o2 A2 C2 h2 gs0 (gu (gu gA 0 ga0) 3 ga3) tb0 tA0 bf0 hi0 gs0 (o1 5) (res := z_10) hz_10) gc_UX5_RX1_143_X0_lineUp rfl rfl (by decide +kernel) (gF_at (j := 1) hF b_1 kd_3 (by decide)) rfl rfl hRm rfl rfl rfl (by decide) (Nat.le_of_ble_eq_true rfl) (by decide) dX1_share_143 (fun w hw => ?_)
      subst hw
      refine g_iconst (v := 0) K dX1_share_146 (by decide) ?_
      refine g_istore (L' := [(5, .int 0), (0, .ref (q 3)), (1, .ref (q 1)), (2, .ref x2), (4, .int x4)]) K dX1_share_147 (hlt _ (by decide)) rfl ?_
      refine g_sub (L' := [(0, .ref (q 3)), (4, .int x4), (5, .int 0)]) [1, 4, 0] rfl ?_
      exact wX1_share_w1_149 (C0 := C0) (h0 := h0) (C1 := C1) (h1 := h1) (C2 := C2) (h2 := h2) (gs0 := gs0) (tb0 := tb0) (tA0 := tA0) (bf0 := bf0) (hi0 := hi0) hF K hlt hRm hret 1000 ga0 ga3 x4 0 h
    have h := hf9 kd_3; clear ht9 hf9
    obtain ⟨ht9, hf9⟩ := gi_br h; clear h
    by_cases kd_4 : ck F x2 = 2
    · have h := ht9 kd_4; clear ht9 hf9
      obtain ⟨z_11, hz_11, h⟩ := gi_bd h
      refine g_callOvF (n := 4) (owner := "ChiefGrades$Chief") (x := ⟨"ChiefGrades$Chief", "lineUp", "([III[I)V"⟩) (As := [.ref (r 3 2), .int gs0, .int (o1 5), .ref (r 3 3)]) (bytes := cX9_lineUp) (maxL := 6) (ret := none) K (ctX9_lineUp_k2 hF (b0 := x2) b_1 kd_4 o0 A0 C0 h0 o1 A1 C1 h1 o2 A2 C2 h2 gs0 (gu (gu gA 0 ga0) 3 ga3) tb0 tA0 bf0 hi0 gs0 (o1 5) (res := z_11) hz_11) gc_OX9_RX1_143_X9_lineUp rfl u_710 (by decide +kernel) (gF_at (j := 2) hF b_1 kd_4 (by decide)) rfl rfl hRm rfl rfl rfl (by decide) (Nat.le_of_ble_eq_true rfl) (by decide) dX1_share_143 (fun w hw => ?_)
      subst hw
      refine g_ws (ws' := cw (g_E Γ) q r (gpl F) o0 A0 C0 h0 o1 A1 C1 h1 o2 A2 C2 h2 gs0 (gu (gu gA 0 ga0) 3 z_11) tb0 tA0 bf0 hi0) rfl ?_
      refine g_iconst (v := 0) K dX1_share_146 (by decide) ?_
      refine g_istore (L' := [(5, .int 0), (0, .ref (q 3)), (1, .ref (q 1)), (2, .ref x2), (4, .int x4)]) K dX1_share_147 (hlt _ (by decide)) rfl ?_
      refine g_sub (L' := [(0, .ref (q 3)), (4, .int x4), (5, .int 0)]) [1, 4, 0] rfl ?_
      exact wX1_share_w1_149 (C0 := C0) (h0 := h0) (C1 := C1) (h1 := h1) (C2 := C2) (h2 := h2) (gs0 := gs0) (tb0 := tb0) (tA0 := tA0) (bf0 := bf0) (hi0 := hi0) hF K hlt hRm hret 1000 ga0 z_11 x4 0 h
    have h := hf9 kd_4; clear ht9 hf9
    obtain ⟨ht9, hf9⟩ := gi_br h; clear h
    by_cases kd_5 : ck F x2 = 3
    · have h := ht9 kd_5; clear ht9 hf9
      obtain ⟨z_12, hz_12, h⟩ := gi_bd h
      refine g_callUvF (n := 4) (owner := "ChiefGrades$Chief") (x := ⟨"ChiefGrades$Chief", "lineUp", "([III[I)V"⟩) (As := [.ref (r 3 2), .int gs0, .int (o1 5), .ref (r 3 3)]) (bytes := cX0_lineUp) (maxL := 5) (ret := none) K (ctX0_lineUp_k3 hF (b0 := x2) b_1 kd_5 o0 A0 C0 h0 o1 A1 C1 h1 o2 A2 C2 h2 gs0 (gu (gu gA 0 ga0) 3 ga3) tb0 tA0 bf0 hi0 gs0 (o1 5) (res := z_12) hz_12) gc_UX4_RX1_143_X0_lineUp rfl rfl (by decide +kernel) (gF_at (j := 3) hF b_1 kd_5 (by decide)) rfl rfl hRm rfl rfl rfl (by decide) (Nat.le_of_ble_eq_true rfl) (by decide) dX1_share_143 (fun w hw => ?_)
      subst hw
      refine g_iconst (v := 0) K dX1_share_146 (by decide) ?_
      refine g_istore (L' := [(5, .int 0), (0, .ref (q 3)), (1, .ref (q 1)), (2, .ref x2), (4, .int x4)]) K dX1_share_147 (hlt _ (by decide)) rfl ?_
      refine g_sub (L' := [(0, .ref (q 3)), (4, .int x4), (5, .int 0)]) [1, 4, 0] rfl ?_
      exact wX1_share_w1_149 (C0 := C0) (h0 := h0) (C1 := C1) (h1 := h1) (C2 := C2) (h2 := h2) (gs0 := gs0) (tb0 := tb0) (tA0 := tA0) (bf0 := bf0) (hi0 := hi0) hF K hlt hRm hret 1000 ga0 ga3 x4 0 h
    have h := hf9 kd_5; clear ht9 hf9
    obtain ⟨ht9, hf9⟩ := gi_br h; clear h
    by_cases kd_6 : ck F x2 = 4
    · have h := ht9 kd_6; clear ht9 hf9
      obtain ⟨z_13, hz_13, h⟩ := gi_bd h
      refine g_callUvF (n := 4) (owner := "ChiefGrades$Chief") (x := ⟨"ChiefGrades$Chief", "lineUp", "([III[I)V"⟩) (As := [.ref (r 3 2), .int gs0, .int (o1 5), .ref (r 3 3)]) (bytes := cX0_lineUp) (maxL := 5) (ret := none) K (ctX0_lineUp_k4 hF (b0 := x2) b_1 kd_6 o0 A0 C0 h0 o1 A1 C1 h1 o2 A2 C2 h2 gs0 (gu (gu gA 0 ga0) 3 ga3) tb0 tA0 bf0 hi0 gs0 (o1 5) (res := z_13) hz_13) gc_UX6_RX1_143_X0_lineUp rfl rfl (by decide +kernel) (gF_at (j := 4) hF b_1 kd_6 (by decide)) rfl rfl hRm rfl rfl rfl (by decide) (Nat.le_of_ble_eq_true rfl) (by decide) dX1_share_143 (fun w hw => ?_)
      subst hw
      refine g_iconst (v := 0) K dX1_share_146 (by decide) ?_
      refine g_istore (L' := [(5, .int 0), (0, .ref (q 3)), (1, .ref (q 1)), (2, .ref x2), (4, .int x4)]) K dX1_share_147 (hlt _ (by decide)) rfl ?_
      refine g_sub (L' := [(0, .ref (q 3)), (4, .int x4), (5, .int 0)]) [1, 4, 0] rfl ?_
      exact wX1_share_w1_149 (C0 := C0) (h0 := h0) (C1 := C1) (h1 := h1) (C2 := C2) (h2 := h2) (gs0 := gs0) (tb0 := tb0) (tA0 := tA0) (bf0 := bf0) (hi0 := hi0) hF K hlt hRm hret 1000 ga0 ga3 x4 0 h
    have h := hf9 kd_6; clear ht9 hf9
    obtain ⟨ht9, hf9⟩ := gi_br h; clear h
    by_cases kd_7 : ck F x2 = 5
    · have h := ht9 kd_7; clear ht9 hf9
      obtain ⟨z_14, hz_14, h⟩ := gi_bd h
      refine g_callOvF (n := 4) (owner := "ChiefGrades$Chief") (x := ⟨"ChiefGrades$Chief", "lineUp", "([III[I)V"⟩) (As := [.ref (r 3 2), .int gs0, .int (o1 5), .ref (r 3 3)]) (bytes := cX3_lineUp) (maxL := 9) (ret := none) K (ctX3_lineUp_k5 hF (b0 := x2) b_1 kd_7 o0 A0 C0 h0 o1 A1 C1 h1 o2 A2 C2 h2 gs0 (gu (gu gA 0 ga0) 3 ga3) tb0 tA0 bf0 hi0 gs0 (o1 5) (res := z_14) hz_14) gc_OX3_RX1_143_X3_lineUp rfl u_710 (by decide +kernel) (gF_at (j := 5) hF b_1 kd_7 (by decide)) rfl rfl hRm rfl rfl rfl (by decide) (Nat.le_of_ble_eq_true rfl) (by decide) dX1_share_143 (fun w hw => ?_)
      subst hw
      refine g_ws (ws' := cw (g_E Γ) q r (gpl F) o0 A0 C0 h0 o1 A1 C1 h1 o2 A2 C2 h2 gs0 (gu (gu gA 0 ga0) 3 z_14) tb0 tA0 bf0 hi0) rfl ?_
      refine g_iconst (v := 0) K dX1_share_146 (by decide) ?_
      refine g_istore (L' := [(5, .int 0), (0, .ref (q 3)), (1, .ref (q 1)), (2, .ref x2), (4, .int x4)]) K dX1_share_147 (hlt _ (by decide)) rfl ?_
      refine g_sub (L' := [(0, .ref (q 3)), (4, .int x4), (5, .int 0)]) [1, 4, 0] rfl ?_
      exact wX1_share_w1_149 (C0 := C0) (h0 := h0) (C1 := C1) (h1 := h1) (C2 := C2) (h2 := h2) (gs0 := gs0) (tb0 := tb0) (tA0 := tA0) (bf0 := bf0) (hi0 := hi0) hF K hlt hRm hret 1000 ga0 z_14 x4 0 h
    have h := hf9 kd_7; clear ht9 hf9
    have kd_8 := gF_last hF b_1 kd_2 kd_3 kd_4 kd_5 kd_6 kd_7
    obtain ⟨z_15, hz_15, h⟩ := gi_bd h
    refine g_callUvF (n := 4) (owner := "ChiefGrades$Chief") (x := ⟨"ChiefGrades$Chief", "lineUp", "([III[I)V"⟩) (As := [.ref (r 3 2), .int gs0, .int (o1 5), .ref (r 3 3)]) (bytes := cX0_lineUp) (maxL := 5) (ret := none) K (ctX0_lineUp_k6 hF (b0 := x2) b_1 kd_8 o0 A0 C0 h0 o1 A1 C1 h1 o2 A2 C2 h2 gs0 (gu (gu gA 0 ga0) 3 ga3) tb0 tA0 bf0 hi0 gs0 (o1 5) (res := z_15) hz_15) gc_UX7_RX1_143_X0_lineUp rfl rfl (by decide +kernel) (gF_at (j := 6) hF b_1 kd_8 (by decide)) rfl rfl hRm rfl rfl rfl (by decide) (Nat.le_of_ble_eq_true rfl) (by decide) dX1_share_143 (fun w hw => ?_)
    subst hw
    refine g_iconst (v := 0) K dX1_share_146 (by decide) ?_
    refine g_istore (L' := [(5, .int 0), (0, .ref (q 3)), (1, .ref (q 1)), (2, .ref x2), (4, .int x4)]) K dX1_share_147 (hlt _ (by decide)) rfl ?_
    refine g_sub (L' := [(0, .ref (q 3)), (4, .int x4), (5, .int 0)]) [1, 4, 0] rfl ?_
    exact wX1_share_w1_149 (C0 := C0) (h0 := h0) (C1 := C1) (h1 := h1) (C2 := C2) (h2 := h2) (gs0 := gs0) (tb0 := tb0) (tA0 := tA0) (bf0 := bf0) (hi0 := hi0) hF K hlt hRm hret 1000 ga0 ga3 x4 0 h

set_option maxHeartbeats 4000000 in
set_option maxRecDepth 100000 in
theorem wX1_share_w1_89 {Γ : gT} {q : Nat → Nat} {r : Nat → Nat → Nat} {F : gF} (hF : gFz (g_E Γ) F) {o0 : Nat → Int32} {A0 : Nat → Nat → Int32} {C0 : Nat → Option Nat} {h0 : Nat} {o1 : Nat → Int32} {A1 : Nat → Nat → Int32} {C1 : Nat → Option Nat} {h1 : Nat} {o2 : Nat → Int32} {A2 : Nat → Nat → Int32} {C2 : Nat → Option Nat} {h2 : Nat} {gs0 : Int32} {gA : Nat → Nat → Int32} {tb0 : Int32} {tA0 bf0 : Nat → Int32} {hi0 : Int32} (K : gOK Γ cX1_share gU RX1) (hlt : ∀ i, i < 8 → i < g_n Γ) (hRm : g_R Γ = ({ frames := 6, cells := 0, slots := 0, locals := 203 } : Room)) {res : Int32 × ((Nat → Int32)) × ((Nat → Int32))} (hret : ∀ (pc : Nat) (L : List (Nat × Value)) (v : Int32) (w : va_W), decode cX1_share pc = .ok (.ireturn, 1) → narrow .int (.int v) = .int v → (v = res.1 ∧ w = cw (g_E Γ) q r (gpl F) o0 A0 C0 h0 o1 A1 C1 h1 o2 A2 C2 h2 gs0 (gu (gu gA 0 res.2.1) 3 res.2.2) tb0 tA0 bf0 hi0) → gGO Γ 0 0 pc L [.int v] w) {k47 : (Nat → Int32) → (Nat → Int32) → Nat → Int32 → Int32 → Int32 → Option (Int32 × ((Nat → Int32)) × ((Nat → Int32)))} (hk47 : ∀ (ga0 : (Nat → Int32)) (ga3 : (Nat → Int32)) (x2 : Nat) (x3 : Int32) (x4 : Int32) (x5 : Int32), k47 ga0 ga3 x2 x3 x4 x5 = some res → gGO Γ 0 0 47 [(0, .ref (q 3)), (1, .ref (q 1)), (2, .ref x2), (3, .int x3), (4, .int x4), (5, .int x5)] [] (cw (g_E Γ) q r (gpl F) o0 A0 C0 h0 o1 A1 C1 h1 o2 A2 C2 h2 gs0 (gu (gu gA 0 ga0) 3 ga3) tb0 tA0 bf0 hi0)) (ga0 : (Nat → Int32)) (ga3 : (Nat → Int32)) (x2 : Nat) (x3 : Int32) (x4 : Int32) (x5 : Int32) (x6 : Int32) (y0 : Int32) (h : pX1_share_w1_89 F k47 (o1 5) h1 gs0 (gA 1) (gA 2) ga0 ga3 x2 x3 x4 x5 x6 y0 = some res) : gGO Γ 0 0 89 [(0, .ref (q 3)), (1, .ref (q 1)), (2, .ref x2), (3, .int x3), (4, .int x4), (5, .int x5), (6, .int x6)] [.int y0] (cw (g_E Γ) q r (gpl F) o0 A0 C0 h0 o1 A1 C1 h1 o2 A2 C2 h2 gs0 (gu (gu gA 0 ga0) 3 ga3) tb0 tA0 bf0 hi0) := by
    unfold pX1_share_w1_89 at h
    refine g_istore (L' := [(7, .int y0), (0, .ref (q 3)), (1, .ref (q 1)), (2, .ref x2), (3, .int x3), (4, .int x4), (5, .int x5), (6, .int x6)]) K dX1_share_89 (hlt _ (by decide)) rfl ?_
    refine g_aload_n K dX1_share_91 rfl 1 rfl ?_
    refine g_get (v := .ref (r 3 0)) (T := TX1) (ref := "ChiefGrades$Grader") K hin_X1 4 rfl rfl 0 (by decide) u_286 (Or.inl rfl) rfl dX1_share_92 ?_
    refine g_aload_n K dX1_share_95 rfl 1 rfl ?_
    refine g_get (v := .ref (r 3 3)) (T := TX1) (ref := "ChiefGrades$Grader") K hin_X1 4 rfl rfl 3 (by decide) u_290 (Or.inl rfl) rfl dX1_share_96 ?_
    refine g_iload K dX1_share_99 6 rfl ?_
    obtain ⟨b_1, h⟩ := gi_none h
    refine g_iald (f := ga3) K 39 rfl (ginb_in b_1) dX1_share_101 ?_
    refine g_iload K dX1_share_102 7 rfl ?_
    refine g_iconst (v := 5) K dX1_share_104 (by decide) ?_
    obtain ⟨ht9, hf9⟩ := gi_br h; clear h
    refine g_icmp_ne (tgt := 117) K dX1_share_105 (by decide) (fun qh => ?_) (fun qh => ?_)
    · have h := hf9 qh; clear ht9 hf9
      refine g_iload K dX1_share_117 7 rfl ?_
      obtain ⟨b_2, h⟩ := gi_none h
      obtain ⟨f_3, ef_3, h⟩ := gi_nm h
      refine g_iast (f := ga0) (ws' := cw (g_E Γ) q r (gpl F) o0 A0 C0 h0 o1 A1 C1 h1 o2 A2 C2 h2 gs0 (gu (gu gA 0 f_3) 3 ga3) tb0 tA0 bf0 hi0) K 36 rfl (ginb_in b_2) dX1_share_119 (by rw [ef_3]; rfl) ?_
      refine g_iinc (v := (x5 + 1)) (L' := [(5, .int (x5 + 1)), (7, .int y0), (0, .ref (q 3)), (1, .ref (q 1)), (2, .ref x2), (3, .int x3), (4, .int x4), (6, .int x6)]) K dX1_share_120 6 rfl rfl (hlt _ (by decide)) rfl ?_
      refine g_goto (tgt := 47) K dX1_share_123 (by decide) ?_
      refine g_sub (L' := [(0, .ref (q 3)), (1, .ref (q 1)), (2, .ref x2), (3, .int x3), (4, .int x4), (5, .int (x5 + 1))]) [2, 3, 4, 5, 6, 0] rfl ?_
      exact hk47 f_3 ga3 x2 x3 x4 (x5 + 1) h
    · have h := ht9 qh; clear ht9 hf9
      refine g_iload K dX1_share_108 0 rfl ?_
      obtain ⟨ht9, hf9⟩ := gi_br h; clear h
      refine g_if_ne (tgt := 117) K dX1_share_110 (by decide) (fun qh => ?_) (fun qh => ?_)
      · have h := hf9 qh; clear ht9 hf9
        refine g_iload K dX1_share_117 7 rfl ?_
        obtain ⟨b_4, h⟩ := gi_none h
        obtain ⟨f_5, ef_5, h⟩ := gi_nm h
        refine g_iast (f := ga0) (ws' := cw (g_E Γ) q r (gpl F) o0 A0 C0 h0 o1 A1 C1 h1 o2 A2 C2 h2 gs0 (gu (gu gA 0 f_5) 3 ga3) tb0 tA0 bf0 hi0) K 36 rfl (ginb_in b_4) dX1_share_119 (by rw [ef_5]; rfl) ?_
        refine g_iinc (v := (x5 + 1)) (L' := [(5, .int (x5 + 1)), (7, .int y0), (0, .ref (q 3)), (1, .ref (q 1)), (2, .ref x2), (3, .int x3), (4, .int x4), (6, .int x6)]) K dX1_share_120 6 rfl rfl (hlt _ (by decide)) rfl ?_
        refine g_goto (tgt := 47) K dX1_share_123 (by decide) ?_
        refine g_sub (L' := [(0, .ref (q 3)), (1, .ref (q 1)), (2, .ref x2), (3, .int x3), (4, .int x4), (5, .int (x5 + 1))]) [2, 3, 4, 5, 6, 0] rfl ?_
        exact hk47 f_5 ga3 x2 x3 x4 (x5 + 1) h
      · have h := ht9 qh; clear ht9 hf9
        refine g_iconst (v := 4) K dX1_share_113 (by decide) ?_
        refine g_goto (tgt := 119) K dX1_share_114 (by decide) ?_
        obtain ⟨b_6, h⟩ := gi_none h
        obtain ⟨f_7, ef_7, h⟩ := gi_nm h
        refine g_iast (f := ga0) (ws' := cw (g_E Γ) q r (gpl F) o0 A0 C0 h0 o1 A1 C1 h1 o2 A2 C2 h2 gs0 (gu (gu gA 0 f_7) 3 ga3) tb0 tA0 bf0 hi0) K 36 rfl (ginb_in b_6) dX1_share_119 (by rw [ef_7]; rfl) ?_
        refine g_iinc (v := (x5 + 1)) (L' := [(5, .int (x5 + 1)), (7, .int y0), (0, .ref (q 3)), (1, .ref (q 1)), (2, .ref x2), (3, .int x3), (4, .int x4), (6, .int x6)]) K dX1_share_120 6 rfl rfl (hlt _ (by decide)) rfl ?_
        refine g_goto (tgt := 47) K dX1_share_123 (by decide) ?_
        refine g_sub (L' := [(0, .ref (q 3)), (1, .ref (q 1)), (2, .ref x2), (3, .int x3), (4, .int x4), (5, .int (x5 + 1))]) [2, 3, 4, 5, 6, 0] rfl ?_
        exact hk47 f_7 ga3 x2 x3 x4 (x5 + 1) h

set_option maxHeartbeats 4000000 in
set_option maxRecDepth 100000 in
theorem wX1_share_w1_47 {Γ : gT} {q : Nat → Nat} {r : Nat → Nat → Nat} {F : gF} (hF : gFz (g_E Γ) F) {o0 : Nat → Int32} {A0 : Nat → Nat → Int32} {C0 : Nat → Option Nat} {h0 : Nat} {o1 : Nat → Int32} {A1 : Nat → Nat → Int32} {C1 : Nat → Option Nat} {h1 : Nat} {o2 : Nat → Int32} {A2 : Nat → Nat → Int32} {C2 : Nat → Option Nat} {h2 : Nat} {gs0 : Int32} {gA : Nat → Nat → Int32} {tb0 : Int32} {tA0 bf0 : Nat → Int32} {hi0 : Int32} (K : gOK Γ cX1_share gU RX1) (hlt : ∀ i, i < 8 → i < g_n Γ) (hRm : g_R Γ = ({ frames := 6, cells := 0, slots := 0, locals := 203 } : Room)) {res : Int32 × ((Nat → Int32)) × ((Nat → Int32))} (hret : ∀ (pc : Nat) (L : List (Nat × Value)) (v : Int32) (w : va_W), decode cX1_share pc = .ok (.ireturn, 1) → narrow .int (.int v) = .int v → (v = res.1 ∧ w = cw (g_E Γ) q r (gpl F) o0 A0 C0 h0 o1 A1 C1 h1 o2 A2 C2 h2 gs0 (gu (gu gA 0 res.2.1) 3 res.2.2) tb0 tA0 bf0 hi0) → gGO Γ 0 0 pc L [.int v] w) : ∀ (n : Nat) (ga0 : (Nat → Int32)) (ga3 : (Nat → Int32)) (x2 : Nat) (x3 : Int32) (x4 : Int32) (x5 : Int32), pX1_share_w1_47 F (o1 5) h1 gs0 (gA 1) (gA 2) n ga0 ga3 x2 x3 x4 x5 = some res → gGO Γ 0 0 47 [(0, .ref (q 3)), (1, .ref (q 1)), (2, .ref x2), (3, .int x3), (4, .int x4), (5, .int x5)] [] (cw (g_E Γ) q r (gpl F) o0 A0 C0 h0 o1 A1 C1 h1 o2 A2 C2 h2 gs0 (gu (gu gA 0 ga0) 3 ga3) tb0 tA0 bf0 hi0) := by
  intro n
  induction n with
  | zero => intro _ _ _ _ _ _ h; cases h
  | succ n ih =>
    intro ga0 ga3 x2 x3 x4 x5 h
    simp only [pX1_share_w1_47] at h
    refine g_iload K dX1_share_47 5 rfl ?_
    refine g_aload_n K dX1_share_49 rfl 0 rfl ?_
    refine g_get (v := .int gs0) (T := TX1) (ref := "ChiefGrades$Grader") K hin_X1 4 rfl rfl 4 (by decide) u_291 (Or.inl rfl) rfl dX1_share_50 ?_
    obtain ⟨ht9, hf9⟩ := gi_br h; clear h
    refine g_icmp_ge (tgt := 126) K dX1_share_53 (by decide) (fun qh => ?_) (fun qh => ?_)
    · have h := ht9 qh; clear ht9 hf9
      refine g_sub (L' := [(0, .ref (q 3)), (1, .ref (q 1)), (2, .ref x2), (4, .int x4)]) [0, 1, 2, 4] rfl ?_
      exact wX1_share_w1_126 (C0 := C0) (h0 := h0) (C1 := C1) (h1 := h1) (C2 := C2) (h2 := h2) (gs0 := gs0) (tb0 := tb0) (tA0 := tA0) (bf0 := bf0) (hi0 := hi0) hF K hlt hRm hret ga0 ga3 x2 x4 h
    · have h := hf9 qh; clear ht9 hf9
      refine g_aload_n K dX1_share_56 rfl 0 rfl ?_
      refine g_get (v := .ref (r 3 1)) (T := TX1) (ref := "ChiefGrades$Grader") K hin_X1 4 rfl rfl 1 (by decide) u_288 (Or.inl rfl) rfl dX1_share_57 ?_
      refine g_aload_n K dX1_share_60 rfl 0 rfl ?_
      refine g_get (v := .ref (r 3 3)) (T := TX1) (ref := "ChiefGrades$Grader") K hin_X1 4 rfl rfl 3 (by decide) u_290 (Or.inl rfl) rfl dX1_share_61 ?_
      refine g_iload K dX1_share_64 5 rfl ?_
      obtain ⟨b_1, h⟩ := gi_none h
      refine g_iald (f := ga3) K 39 rfl (ginb_in b_1) dX1_share_66 ?_
      obtain ⟨b_2, h⟩ := gi_none h
      refine g_iald (f := (gA 1)) K 37 rfl (ginb_in b_2) dX1_share_67 ?_
      obtain ⟨z_3, hz_3, h⟩ := gi_bd h
      refine g_callSi (As := [.int ((gA 1) (Int32.toNatClampNeg (ga3 (Int32.toNatClampNeg x5))))]) (bytes := cX1_byMark) (maxL := 1) (ret := (some .int)) K (ctX1_byMark (ws := cw (g_E Γ) q r (gpl F) o0 A0 C0 h0 o1 A1 C1 h1 o2 A2 C2 h2 gs0 (gu (gu gA 0 ga0) 3 ga3) tb0 tA0 bf0 hi0) ((gA 1) (Int32.toNatClampNeg (ga3 (Int32.toNatClampNeg x5)))) (res := z_3) hz_3) gc_S_RX1_140_X1_byMark rfl qs_X1_byMark hRm rfl rfl rfl (by decide) (Nat.le_of_ble_eq_true rfl) (by decide) dX1_share_68 (fun v w hw => ?_)
      obtain ⟨hv9, rfl⟩ := hw; have hv9 := hv9.symm; subst hv9
      refine g_istore (L' := [(6, .int z_3), (0, .ref (q 3)), (1, .ref (q 1)), (2, .ref x2), (3, .int x3), (4, .int x4), (5, .int x5)]) K dX1_share_71 (hlt _ (by decide)) rfl ?_
      refine g_iload K dX1_share_73 6 rfl ?_
      refine g_aload_n K dX1_share_75 rfl 1 rfl ?_
      refine g_get (v := .int gs0) (T := TX1) (ref := "ChiefGrades$Grader") K hin_X1 4 rfl rfl 4 (by decide) u_291 (Or.inl rfl) rfl dX1_share_76 ?_
      refine g_iload_n K dX1_share_79 rfl 4 rfl ?_
      refine g_isub K dX1_share_80 ?_
      obtain ⟨ht9, hf9⟩ := gi_br h; clear h
      refine g_icmp_lt (tgt := 88) K dX1_share_81 (by decide) (fun qh => ?_) (fun qh => ?_)
      · have h := ht9 qh; clear ht9 hf9
        refine g_iconst (v := 0) K dX1_share_88 (by decide) ?_
        refine g_sub (L' := [(0, .ref (q 3)), (1, .ref (q 1)), (2, .ref x2), (3, .int x3), (4, .int x4), (5, .int x5), (6, .int z_3)]) [1, 2, 3, 4, 5, 6, 0] rfl ?_
        exact wX1_share_w1_89 (C0 := C0) (h0 := h0) (C1 := C1) (h1 := h1) (C2 := C2) (h2 := h2) (gs0 := gs0) (tb0 := tb0) (tA0 := tA0) (bf0 := bf0) (hi0 := hi0) hF K hlt hRm hret ih ga0 ga3 x2 x3 x4 x5 z_3 0 h
      · have h := hf9 qh; clear ht9 hf9
        refine g_iconst (v := 1) K dX1_share_84 (by decide) ?_
        refine g_goto (tgt := 89) K dX1_share_85 (by decide) ?_
        refine g_sub (L' := [(0, .ref (q 3)), (1, .ref (q 1)), (2, .ref x2), (3, .int x3), (4, .int x4), (5, .int x5), (6, .int z_3)]) [1, 2, 3, 4, 5, 6, 0] rfl ?_
        exact wX1_share_w1_89 (C0 := C0) (h0 := h0) (C1 := C1) (h1 := h1) (C2 := C2) (h2 := h2) (gs0 := gs0) (tb0 := tb0) (tA0 := tA0) (bf0 := bf0) (hi0 := hi0) hF K hlt hRm hret ih ga0 ga3 x2 x3 x4 x5 z_3 1 h

set_option maxHeartbeats 4000000 in
set_option maxRecDepth 100000 in
theorem wX1_share_w1 {Γ : gT} {q : Nat → Nat} {r : Nat → Nat → Nat} {F : gF} (hF : gFz (g_E Γ) F) {o0 : Nat → Int32} {A0 : Nat → Nat → Int32} {C0 : Nat → Option Nat} {h0 : Nat} {o1 : Nat → Int32} {A1 : Nat → Nat → Int32} {C1 : Nat → Option Nat} {h1 : Nat} {o2 : Nat → Int32} {A2 : Nat → Nat → Int32} {C2 : Nat → Option Nat} {h2 : Nat} {gs0 : Int32} {gA : Nat → Nat → Int32} {tb0 : Int32} {tA0 bf0 : Nat → Int32} {hi0 : Int32} (K : gOK Γ cX1_share gU RX1) (hlt : ∀ i, i < 8 → i < g_n Γ) (hRm : g_R Γ = ({ frames := 6, cells := 0, slots := 0, locals := 203 } : Room)) {res : Int32 × ((Nat → Int32)) × ((Nat → Int32))} (hret : ∀ (pc : Nat) (L : List (Nat × Value)) (v : Int32) (w : va_W), decode cX1_share pc = .ok (.ireturn, 1) → narrow .int (.int v) = .int v → (v = res.1 ∧ w = cw (g_E Γ) q r (gpl F) o0 A0 C0 h0 o1 A1 C1 h1 o2 A2 C2 h2 gs0 (gu (gu gA 0 res.2.1) 3 res.2.2) tb0 tA0 bf0 hi0) → gGO Γ 0 0 pc L [.int v] w) (ga0 : (Nat → Int32)) (ga3 : (Nat → Int32)) (x2 : Nat) (h : pX1_share_w1 F (o1 5) h1 gs0 (gA 1) (gA 2) ga0 ga3 x2 = some res) : gGO Γ 0 0 0 [(0, .ref (q 3)), (1, .ref (q 1)), (2, .ref x2)] [] (cw (g_E Γ) q r (gpl F) o0 A0 C0 h0 o1 A1 C1 h1 o2 A2 C2 h2 gs0 (gu (gu gA 0 ga0) 3 ga3) tb0 tA0 bf0 hi0) := by
    unfold pX1_share_w1 at h
    refine g_aload_n K dX1_share_0 rfl 1 rfl ?_
    refine g_get (v := .ref h1) (T := TX10) (ref := "ChiefGrades$World") K hin_X10 2 rfl rfl 18 (by decide) u_202 (Or.inl rfl) rfl dX1_share_1 ?_
    obtain ⟨b_1, h⟩ := gi_none h
    refine hsg_0 K hF b_1 hin_X2 u_119 dX1_share_4 ?_
    refine g_aload_n K dX1_share_7 rfl 0 rfl ?_
    refine g_get (v := .int gs0) (T := TX1) (ref := "ChiefGrades$Grader") K hin_X1 4 rfl rfl 4 (by decide) u_291 (Or.inl rfl) rfl dX1_share_8 ?_
    refine g_imul K dX1_share_11 ?_
    refine g_bipush (v := 10) K dX1_share_12 (by decide) ?_
    refine g_idiv K dX1_share_14 (by decide) ?_
    obtain ⟨v_3, ev_3, h⟩ := gi_nm h
    refine g_topi ev_3 ?_
    refine g_istore_n (L' := [(3, .int v_3), (0, .ref (q 3)), (1, .ref (q 1)), (2, .ref x2)]) K dX1_share_15 rfl (hlt _ (by decide)) rfl ?_
    refine g_aload_n K dX1_share_16 rfl 1 rfl ?_
    refine g_get (v := .int gs0) (T := TX1) (ref := "ChiefGrades$Grader") K hin_X1 4 rfl rfl 4 (by decide) u_291 (Or.inl rfl) rfl dX1_share_17 ?_
    refine g_aload_n K dX1_share_20 rfl 2 rfl ?_
    refine g_get (v := .ref h1) (T := TX10) (ref := "ChiefGrades$World") K hin_X10 2 rfl rfl 18 (by decide) u_202 (Or.inl rfl) rfl dX1_share_21 ?_
    refine hsg_1 K hF b_1 hin_X2 u_122 dX1_share_24 ?_
    refine g_aload_n K dX1_share_27 rfl 1 rfl ?_
    refine g_get (v := .int gs0) (T := TX1) (ref := "ChiefGrades$Grader") K hin_X1 4 rfl rfl 4 (by decide) u_291 (Or.inl rfl) rfl dX1_share_28 ?_
    refine g_imul K dX1_share_31 ?_
    refine g_bipush (v := 10) K dX1_share_32 (by decide) ?_
    refine g_idiv K dX1_share_34 (by decide) ?_
    refine g_mmin K u_687 u_112 u_71 u_113 hRm ⟨by decide, Nat.le_of_ble_eq_true rfl, by decide, by decide⟩ dX1_share_35 ?_
    obtain ⟨v_5, ev_5, h⟩ := gi_nm h
    refine g_topi ev_5 ?_
    refine g_istore (L' := [(4, .int v_5), (3, .int v_3), (0, .ref (q 3)), (1, .ref (q 1)), (2, .ref x2)]) K dX1_share_38 (hlt _ (by decide)) rfl ?_
    refine g_aload_n K dX1_share_40 rfl 2 rfl ?_
    obtain ⟨z_6, hz_6, h⟩ := gi_bd h
    refine g_callVv (As := []) (bytes := cX1_rank) (maxL := 6) (ret := none) K (ctX1_rank hF o0 A0 C0 h0 o1 A1 C1 h1 o2 A2 C2 h2 gs0 (gu (gu gA 0 ga0) 3 ga3) tb0 tA0 bf0 hi0 (res := z_6) hz_6) gc_V_RX1_137_X1_rank rfl qv_X1_rank 4 rfl rfl rfl hRm rfl rfl rfl (by decide) (Nat.le_of_ble_eq_true rfl) (by decide) dX1_share_41 (fun w hw => ?_)
    subst hw
    refine g_ws (ws' := cw (g_E Γ) q r (gpl F) o0 A0 C0 h0 o1 A1 C1 h1 o2 A2 C2 h2 gs0 (gu (gu gA 0 ga0) 3 z_6) tb0 tA0 bf0 hi0) rfl ?_
    refine g_iconst (v := 0) K dX1_share_44 (by decide) ?_
    refine g_istore (L' := [(5, .int 0), (4, .int v_5), (3, .int v_3), (0, .ref (q 3)), (1, .ref (q 1)), (2, .ref x2)]) K dX1_share_45 (hlt _ (by decide)) rfl ?_
    refine g_sub (L' := [(0, .ref (q 3)), (1, .ref (q 1)), (2, .ref x2), (3, .int v_3), (4, .int v_5), (5, .int 0)]) [3, 4, 5, 2, 1, 0] rfl ?_
    exact wX1_share_w1_47 (C0 := C0) (h0 := h0) (C1 := C1) (h1 := h1) (C2 := C2) (h2 := h2) (gs0 := gs0) (tb0 := tb0) (tA0 := tA0) (bf0 := bf0) (hi0 := hi0) hF K hlt hRm hret 1000 ga0 z_6 x2 v_3 v_5 0 h

set_option maxRecDepth 100000 in
theorem ctX1_share_w1 {E : gE} {q : Nat → Nat} {r : Nat → Nat → Nat} {F : gF} (hF : gFz E F) (o0 : Nat → Int32) (A0 : Nat → Nat → Int32) (C0 : Nat → Option Nat) (h0 : Nat) (o1 : Nat → Int32) (A1 : Nat → Nat → Int32) (C1 : Nat → Option Nat) (h1 : Nat) (o2 : Nat → Int32) (A2 : Nat → Nat → Int32) (C2 : Nat → Option Nat) (h2 : Nat) (gs0 : Int32) (gA : Nat → Nat → Int32) (tb0 : Int32) (tA0 bf0 : Nat → Int32) (hi0 : Int32) (x2 : Nat) {res : Int32 × ((Nat → Int32)) × ((Nat → Int32))} (h : pX1_share_w1 F (o1 5) h1 gs0 (gA 1) (gA 2) (gA 0) (gA 3) x2 = some res) : gMi yX1_share (.code yX1_share cX1_share 8 (some .int) :: gU) ({ frames := 6, cells := 0, slots := 0, locals := 203 } : Room) 0 0 E [.ref (q 3), .ref (q 1), .ref x2] (cw E q r (gpl F) o0 A0 C0 h0 o1 A1 C1 h1 o2 A2 C2 h2 gs0 gA tb0 tA0 bf0 hi0) (fun v w => v = res.1 ∧ w = cw E q r (gpl F) o0 A0 C0 h0 o1 A1 C1 h1 o2 A2 C2 h2 gs0 (gu (gu gA 0 res.2.1) 3 res.2.2) tb0 tA0 bf0 hi0) := by
  refine g_met_i (by decide +kernel) (Nat.le_of_ble_eq_true rfl) (fun Γ K hn hE hRm _ hret => ?_)
  subst hE
  have hlt : ∀ i, i < 8 → i < g_n Γ := fun i q => by rw [hn]; exact q
  refine g_ws (ws' := cw (g_E Γ) q r (gpl F) o0 A0 C0 h0 o1 A1 C1 h1 o2 A2 C2 h2 gs0 (gu (gu gA 0 (gA 0)) 3 (gA 3)) tb0 tA0 bf0 hi0) rfl ?_
  refine g_sub (L' := [(0, .ref (q 3)), (1, .ref (q 1)), (2, .ref x2)]) [0, 1, 2] rfl ?_
  exact wX1_share_w1 (C0 := C0) (h0 := h0) (C1 := C1) (h1 := h1) (C2 := C2) (h2 := h2) (gs0 := gs0) (tb0 := tb0) (tA0 := tA0) (bf0 := bf0) (hi0 := hi0) hF K hlt hRm hret (gA 0) (gA 3) x2 h

set_option maxHeartbeats 4000000 in
set_option maxRecDepth 100000 in
theorem wX1_gradeTeam_w1 {Γ : gT} {q : Nat → Nat} {r : Nat → Nat → Nat} {F : gF} (hF : gFz (g_E Γ) F) {o0 : Nat → Int32} {A0 : Nat → Nat → Int32} {C0 : Nat → Option Nat} {h0 : Nat} {o1 : Nat → Int32} {A1 : Nat → Nat → Int32} {C1 : Nat → Option Nat} {h1 : Nat} {o2 : Nat → Int32} {A2 : Nat → Nat → Int32} {C2 : Nat → Option Nat} {h2 : Nat} {gs0 : Int32} {gA : Nat → Nat → Int32} {tb0 : Int32} {tA0 bf0 : Nat → Int32} {hi0 : Int32} (K : gOK Γ cX1_gradeTeam gU RX1) (hlt : ∀ i, i < 3 → i < g_n Γ) (hRm : g_R Γ = ({ frames := 8, cells := 0, slots := 0, locals := 238 } : Room)) {res : Int32 × Int32 × ((Nat → Int32)) × ((Nat → Int32)) × ((Nat → Int32)) × ((Nat → Int32)) × ((Nat → Int32))} (hret : ∀ (pc : Nat) (L : List (Nat × Value)) (v : Int32) (w : va_W), decode cX1_gradeTeam pc = .ok (.ireturn, 1) → narrow .int (.int v) = .int v → (v = res.1 ∧ w = cw (g_E Γ) q r (gpl F) o0 A0 C0 h0 o1 A1 C1 h1 o2 A2 C2 h2 res.2.1 (gu (gu (gu (gu (gu gA 0 res.2.2.1) 1 res.2.2.2.1) 2 res.2.2.2.2.1) 3 res.2.2.2.2.2.1) 5 res.2.2.2.2.2.2) tb0 tA0 bf0 hi0) → gGO Γ 0 0 pc L [.int v] w) (gs : Int32) (ga0 : (Nat → Int32)) (ga1 : (Nat → Int32)) (ga2 : (Nat → Int32)) (ga3 : (Nat → Int32)) (ga5 : (Nat → Int32)) (x2 : Nat) (h : pX1_gradeTeam_w1 F (o1 0) (o1 5) (A1 8) (A1 9) (A1 10) (A1 11) h1 gs ga0 ga1 ga2 ga3 ga5 x2 = some res) : gGO Γ 0 0 0 [(0, .ref (q 3)), (1, .ref (q 1)), (2, .ref x2)] [] (cw (g_E Γ) q r (gpl F) o0 A0 C0 h0 o1 A1 C1 h1 o2 A2 C2 h2 gs (gu (gu (gu (gu (gu gA 0 ga0) 1 ga1) 2 ga2) 3 ga3) 5 ga5) tb0 tA0 bf0 hi0) := by
    unfold pX1_gradeTeam_w1 at h
    refine g_aload_n K dX1_gradeTeam_0 rfl 0 rfl ?_
    refine g_aload_n K dX1_gradeTeam_1 rfl 1 rfl ?_
    refine g_aload_n K dX1_gradeTeam_2 rfl 2 rfl ?_
    obtain ⟨b_1, h⟩ := gi_none h
    refine chg_1 K hF b_1 hch u_259 dX1_gradeTeam_3 ?_
    obtain ⟨z_2, hz_2, h⟩ := gi_bd h
    refine g_callVi (As := [.int (cn F x2)]) (bytes := cX10_teamBits) (maxL := 4) (ret := (some .int)) K (ctX10_teamBits_w1 hF o0 A0 C0 h0 o1 A1 C1 h1 o2 A2 C2 h2 gs (gu (gu (gu (gu (gu gA 0 ga0) 1 ga1) 2 ga2) 3 ga3) 5 ga5) tb0 tA0 bf0 hi0 (cn F x2) (res := z_2) hz_2) gc_V_RX1_55_X10_teamBits rfl qv_X10_teamBits 2 rfl rfl rfl hRm rfl rfl rfl (by decide) (Nat.le_of_ble_eq_true rfl) (by decide) dX1_gradeTeam_6 (fun v w hw => ?_)
    obtain ⟨hv9, rfl⟩ := hw; have hv9 := hv9.symm; subst hv9
    obtain ⟨z_3, hz_3, h⟩ := gi_bd h
    refine g_callVv (As := [.int z_2]) (bytes := cX1_gather) (maxL := 3) (ret := none) K (ctX1_gather hF o0 A0 C0 h0 o1 A1 C1 h1 o2 A2 C2 h2 gs (gu (gu (gu (gu (gu gA 0 ga0) 1 ga1) 2 ga2) 3 ga3) 5 ga5) tb0 tA0 bf0 hi0 z_2 (res := z_3) hz_3) gc_V_RX1_101_X1_gather rfl qv_X1_gather 4 rfl rfl rfl hRm rfl rfl rfl (by decide) (Nat.le_of_ble_eq_true rfl) (by decide) dX1_gradeTeam_9 (fun w hw => ?_)
    subst hw
    refine g_ws (ws' := cw (g_E Γ) q r (gpl F) o0 A0 C0 h0 o1 A1 C1 h1 o2 A2 C2 h2 z_3.1 (gu (gu (gu (gu (gu gA 0 ga0) 1 ga1) 2 z_3.2) 3 ga3) 5 ga5) tb0 tA0 bf0 hi0) rfl ?_
    refine g_aload_n K dX1_gradeTeam_12 rfl 0 rfl ?_
    refine g_aload_n K dX1_gradeTeam_13 rfl 1 rfl ?_
    refine g_aload_n K dX1_gradeTeam_14 rfl 2 rfl ?_
    obtain ⟨z_4, hz_4, h⟩ := gi_bd h
    refine g_callVv (As := [.ref (q 1), .ref x2]) (bytes := cX1_markTeam) (maxL := 4) (ret := none) K (ctX1_markTeam_w1 hF o0 A0 C0 h0 o1 A1 C1 h1 o2 A2 C2 h2 z_3.1 (gu (gu (gu (gu (gu gA 0 ga0) 1 ga1) 2 z_3.2) 3 ga3) 5 ga5) tb0 tA0 bf0 hi0 x2 (res := z_4) hz_4) gc_V_RX1_105_X1_markTeam rfl qv_X1_markTeam 4 rfl rfl rfl hRm rfl rfl rfl (by decide) (Nat.le_of_ble_eq_true rfl) (by decide) dX1_gradeTeam_15 (fun w hw => ?_)
    subst hw
    refine g_ws (ws' := cw (g_E Γ) q r (gpl F) o0 A0 C0 h0 o1 A1 C1 h1 o2 A2 C2 h2 z_3.1 (gu (gu (gu (gu (gu gA 0 ga0) 1 z_4.1) 2 z_3.2) 3 ga3) 5 z_4.2) tb0 tA0 bf0 hi0) rfl ?_
    refine g_aload_n K dX1_gradeTeam_18 rfl 0 rfl ?_
    refine g_aload_n K dX1_gradeTeam_19 rfl 1 rfl ?_
    refine g_aload_n K dX1_gradeTeam_20 rfl 2 rfl ?_
    obtain ⟨z_5, hz_5, h⟩ := gi_bd h
    refine g_callVi (As := [.ref (q 1), .ref x2]) (bytes := cX1_share) (maxL := 8) (ret := (some .int)) K (ctX1_share_w1 hF o0 A0 C0 h0 o1 A1 C1 h1 o2 A2 C2 h2 z_3.1 (gu (gu (gu (gu (gu gA 0 ga0) 1 z_4.1) 2 z_3.2) 3 ga3) 5 z_4.2) tb0 tA0 bf0 hi0 x2 (res := z_5) hz_5) gc_V_RX1_109_X1_share rfl qv_X1_share 4 rfl rfl rfl hRm rfl rfl rfl (by decide) (Nat.le_of_ble_eq_true rfl) (by decide) dX1_gradeTeam_21 (fun v w hw => ?_)
    obtain ⟨hv9, rfl⟩ := hw; have hv9 := hv9.symm; subst hv9
    refine g_ws (ws' := cw (g_E Γ) q r (gpl F) o0 A0 C0 h0 o1 A1 C1 h1 o2 A2 C2 h2 z_3.1 (gu (gu (gu (gu (gu gA 0 z_5.2.1) 1 z_4.1) 2 z_3.2) 3 z_5.2.2) 5 z_4.2) tb0 tA0 bf0 hi0) rfl ?_
    obtain rfl := Option.some.inj h
    exact hret _ _ _ _ dX1_gradeTeam_24 rfl ⟨rfl, rfl⟩

set_option maxRecDepth 100000 in
theorem ctX1_gradeTeam_w1 {E : gE} {q : Nat → Nat} {r : Nat → Nat → Nat} {F : gF} (hF : gFz E F) (o0 : Nat → Int32) (A0 : Nat → Nat → Int32) (C0 : Nat → Option Nat) (h0 : Nat) (o1 : Nat → Int32) (A1 : Nat → Nat → Int32) (C1 : Nat → Option Nat) (h1 : Nat) (o2 : Nat → Int32) (A2 : Nat → Nat → Int32) (C2 : Nat → Option Nat) (h2 : Nat) (gs0 : Int32) (gA : Nat → Nat → Int32) (tb0 : Int32) (tA0 bf0 : Nat → Int32) (hi0 : Int32) (x2 : Nat) {res : Int32 × Int32 × ((Nat → Int32)) × ((Nat → Int32)) × ((Nat → Int32)) × ((Nat → Int32)) × ((Nat → Int32))} (h : pX1_gradeTeam_w1 F (o1 0) (o1 5) (A1 8) (A1 9) (A1 10) (A1 11) h1 gs0 (gA 0) (gA 1) (gA 2) (gA 3) (gA 5) x2 = some res) : gMi yX1_gradeTeam (.code yX1_gradeTeam cX1_gradeTeam 3 (some .int) :: gU) ({ frames := 8, cells := 0, slots := 0, locals := 238 } : Room) 0 0 E [.ref (q 3), .ref (q 1), .ref x2] (cw E q r (gpl F) o0 A0 C0 h0 o1 A1 C1 h1 o2 A2 C2 h2 gs0 gA tb0 tA0 bf0 hi0) (fun v w => v = res.1 ∧ w = cw E q r (gpl F) o0 A0 C0 h0 o1 A1 C1 h1 o2 A2 C2 h2 res.2.1 (gu (gu (gu (gu (gu gA 0 res.2.2.1) 1 res.2.2.2.1) 2 res.2.2.2.2.1) 3 res.2.2.2.2.2.1) 5 res.2.2.2.2.2.2) tb0 tA0 bf0 hi0) := by
  refine g_met_i (by decide +kernel) (Nat.le_of_ble_eq_true rfl) (fun Γ K hn hE hRm _ hret => ?_)
  subst hE
  have hlt : ∀ i, i < 3 → i < g_n Γ := fun i q => by rw [hn]; exact q
  refine g_ws (ws' := cw (g_E Γ) q r (gpl F) o0 A0 C0 h0 o1 A1 C1 h1 o2 A2 C2 h2 gs0 (gu (gu (gu (gu (gu gA 0 (gA 0)) 1 (gA 1)) 2 (gA 2)) 3 (gA 3)) 5 (gA 5)) tb0 tA0 bf0 hi0) rfl ?_
  refine g_sub (L' := [(0, .ref (q 3)), (1, .ref (q 1)), (2, .ref x2)]) [0, 1, 2] rfl ?_
  exact wX1_gradeTeam_w1 (C0 := C0) (h0 := h0) (C1 := C1) (h1 := h1) (C2 := C2) (h2 := h2) (gs0 := gs0) (tb0 := tb0) (tA0 := tA0) (bf0 := bf0) (hi0 := hi0) hF K hlt hRm hret gs0 (gA 0) (gA 1) (gA 2) (gA 3) (gA 5) x2 h

set_option maxHeartbeats 4000000 in
set_option maxRecDepth 100000 in
theorem wX1_gradeHad_w1 {Γ : gT} {q : Nat → Nat} {r : Nat → Nat → Nat} {F : gF} (hF : gFz (g_E Γ) F) {o0 : Nat → Int32} {A0 : Nat → Nat → Int32} {C0 : Nat → Option Nat} {h0 : Nat} {o1 : Nat → Int32} {A1 : Nat → Nat → Int32} {C1 : Nat → Option Nat} {h1 : Nat} {o2 : Nat → Int32} {A2 : Nat → Nat → Int32} {C2 : Nat → Option Nat} {h2 : Nat} {gs0 : Int32} {gA : Nat → Nat → Int32} {tb0 : Int32} {tA0 bf0 : Nat → Int32} {hi0 : Int32} (K : gOK Γ cX1_gradeHad gU RX1) (hlt : ∀ i, i < 4 → i < g_n Γ) (hRm : g_R Γ = ({ frames := 9, cells := 0, slots := 0, locals := 260 } : Room)) {res : Int32 × Int32 × ((Nat → Int32)) × ((Nat → Int32)) × ((Nat → Int32)) × ((Nat → Int32)) × ((Nat → Int32))} (hret : ∀ (pc : Nat) (L : List (Nat × Value)) (v : Int32) (w : va_W), decode cX1_gradeHad pc = .ok (.ireturn, 1) → narrow .int (.int v) = .int v → (v = res.1 ∧ w = cw (g_E Γ) q r (gpl F) o0 A0 C0 h0 o1 A1 C1 h1 o2 A2 C2 h2 res.2.1 (gu (gu (gu (gu (gu gA 0 res.2.2.1) 1 res.2.2.2.1) 2 res.2.2.2.2.1) 3 res.2.2.2.2.2.1) 5 res.2.2.2.2.2.2) tb0 tA0 bf0 hi0) → gGO Γ 0 0 pc L [.int v] w) (gs : Int32) (ga0 : (Nat → Int32)) (ga1 : (Nat → Int32)) (ga2 : (Nat → Int32)) (ga3 : (Nat → Int32)) (ga5 : (Nat → Int32)) (x2 : Int32) (h : pX1_gradeHad_w1 F (o1 0) (o1 1) (o1 5) (A1 8) (A1 9) (A1 10) (A1 11) h1 C1 gs ga0 ga1 ga2 ga3 ga5 x2 = some res) : gGO Γ 0 0 0 [(0, .ref (q 3)), (1, .ref (q 1)), (2, .int x2)] [] (cw (g_E Γ) q r (gpl F) o0 A0 C0 h0 o1 A1 C1 h1 o2 A2 C2 h2 gs (gu (gu (gu (gu (gu gA 0 ga0) 1 ga1) 2 ga2) 3 ga3) 5 ga5) tb0 tA0 bf0 hi0) := by
    unfold pX1_gradeHad_w1 at h
    refine g_aload_n K dX1_gradeHad_0 rfl 1 rfl ?_
    refine g_iload_n K dX1_gradeHad_1 rfl 2 rfl ?_
    obtain ⟨z_1, hz_1, h⟩ := gi_bd h
    refine g_callVi (As := [.int x2]) (bytes := cX10_hasWorker) (maxL := 2) (ret := (some .boolean)) K (ctX10_hasWorker_w1 hF o0 A0 C0 h0 o1 A1 C1 h1 o2 A2 C2 h2 gs (gu (gu (gu (gu (gu gA 0 ga0) 1 ga1) 2 ga2) 3 ga3) 5 ga5) tb0 tA0 bf0 hi0 x2 (res := z_1) hz_1) gc_V_RX1_36_X10_hasWorker rfl qv_X10_hasWorker 2 rfl rfl rfl hRm rfl rfl rfl (by decide) (Nat.le_of_ble_eq_true rfl) (by decide) dX1_gradeHad_2 (fun v w hw => ?_)
    obtain ⟨hv9, rfl⟩ := hw; have hv9 := hv9.symm; subst hv9
    obtain ⟨ht9, hf9⟩ := gi_br h; clear h
    refine g_if_ne (tgt := 10) K dX1_gradeHad_5 (by decide) (fun qh => ?_) (fun qh => ?_)
    · have h := hf9 qh; clear ht9 hf9
      refine g_aload_n K dX1_gradeHad_10 rfl 1 rfl ?_
      refine g_aload_n K dX1_gradeHad_11 rfl 1 rfl ?_
      refine g_get (v := .ref (r 1 10)) (T := TX10) (ref := "ChiefGrades$World") K hin_X10 2 rfl rfl 10 (by decide) u_184 (Or.inl rfl) rfl dX1_gradeHad_12 ?_
      refine g_iload_n K dX1_gradeHad_15 rfl 2 rfl ?_
      obtain ⟨b_2, h⟩ := gi_none h
      refine g_iald (f := (A1 10)) K 18 rfl (ginb_in b_2) dX1_gradeHad_16 ?_
      obtain ⟨z_3, hz_3, h⟩ := gi_bd h
      refine g_callVq (As := [.int ((A1 10) (Int32.toNatClampNeg x2))]) (bytes := cX10_chiefAt) (maxL := 2) (ret := (some (.object "ChiefGrades$Chief"))) K (ctX10_chiefAt_w1 hF o0 A0 C0 h0 o1 A1 C1 h1 o2 A2 C2 h2 gs (gu (gu (gu (gu (gu gA 0 ga0) 1 ga1) 2 ga2) 3 ga3) 5 ga5) tb0 tA0 bf0 hi0 ((A1 10) (Int32.toNatClampNeg x2)) (res := z_3) hz_3) gc_V_RX1_90_X10_chiefAt rfl qv_X10_chiefAt 2 rfl rfl rfl hRm rfl rfl rfl (by decide) (Nat.le_of_ble_eq_true rfl) (by decide) dX1_gradeHad_17 (fun v w hw => ?_)
      obtain ⟨hv9, rfl⟩ := hw; have hv9 := hv9.symm; subst hv9
      rcases gi_mt h with ⟨ez, h⟩ | ⟨b_z3, ez, h⟩
      · rw [ez]
        refine g_astore_nN (L' := [(3, .null), (0, .ref (q 3)), (1, .ref (q 1)), (2, .int x2)]) K dX1_gradeHad_20 rfl (hlt _ (by decide)) rfl ?_
        refine g_aload_nN K dX1_gradeHad_21 rfl 0 rfl ?_
        refine g_ifnonnullN K dX1_gradeHad_22 ?_
        refine g_iconst (v := 0) K dX1_gradeHad_25 (by decide) ?_
        obtain rfl := Option.some.inj h
        exact hret _ _ _ _ dX1_gradeHad_26 rfl ⟨rfl, rfl⟩
      · rw [ez]
        refine g_astore_n (L' := [(3, .ref b_z3), (0, .ref (q 3)), (1, .ref (q 1)), (2, .int x2)]) K dX1_gradeHad_20 rfl (hlt _ (by decide)) rfl ?_
        refine g_aload_n K dX1_gradeHad_21 rfl 0 rfl ?_
        refine g_ifnonnull (tgt := 27) K dX1_gradeHad_22 (by decide) ?_
        refine g_aload_n K dX1_gradeHad_27 rfl 1 rfl ?_
        refine g_aload_n K dX1_gradeHad_28 rfl 2 rfl ?_
        refine g_aload_n K dX1_gradeHad_29 rfl 0 rfl ?_
        obtain ⟨z_4, hz_4, h⟩ := gi_bd h
        refine g_callVi (As := [.ref (q 1), .ref b_z3]) (bytes := cX1_gradeTeam) (maxL := 3) (ret := (some .int)) K (ctX1_gradeTeam_w1 hF o0 A0 C0 h0 o1 A1 C1 h1 o2 A2 C2 h2 gs (gu (gu (gu (gu (gu gA 0 ga0) 1 ga1) 2 ga2) 3 ga3) 5 ga5) tb0 tA0 bf0 hi0 b_z3 (res := z_4) hz_4) gc_V_RX1_94_X1_gradeTeam rfl qv_X1_gradeTeam 4 rfl rfl rfl hRm rfl rfl rfl (by decide) (Nat.le_of_ble_eq_true rfl) (by decide) dX1_gradeHad_30 (fun v w hw => ?_)
        obtain ⟨hv9, rfl⟩ := hw; have hv9 := hv9.symm; subst hv9
        refine g_ws (ws' := cw (g_E Γ) q r (gpl F) o0 A0 C0 h0 o1 A1 C1 h1 o2 A2 C2 h2 z_4.2.1 (gu (gu (gu (gu (gu gA 0 z_4.2.2.1) 1 z_4.2.2.2.1) 2 z_4.2.2.2.2.1) 3 z_4.2.2.2.2.2.1) 5 z_4.2.2.2.2.2.2) tb0 tA0 bf0 hi0) rfl ?_
        refine g_pop K dX1_gradeHad_33 rfl ?_
        refine g_aload_n K dX1_gradeHad_34 rfl 1 rfl ?_
        refine g_get (v := .ref (r 3 0)) (T := TX1) (ref := "ChiefGrades$Grader") K hin_X1 4 rfl rfl 0 (by decide) u_286 (Or.inl rfl) rfl dX1_gradeHad_35 ?_
        refine g_iload_n K dX1_gradeHad_38 rfl 3 rfl ?_
        obtain ⟨b_5, h⟩ := gi_none h
        refine g_iald (f := z_4.2.2.1) K 36 rfl (ginb_in b_5) dX1_gradeHad_39 ?_
        obtain rfl := Option.some.inj h
        exact hret _ _ _ _ dX1_gradeHad_40 rfl ⟨rfl, rfl⟩
    · have h := ht9 qh; clear ht9 hf9
      refine g_iconst (v := 0) K dX1_gradeHad_8 (by decide) ?_
      obtain rfl := Option.some.inj h
      exact hret _ _ _ _ dX1_gradeHad_9 rfl ⟨rfl, rfl⟩

set_option maxRecDepth 100000 in
theorem ctX1_gradeHad_w1 {E : gE} {q : Nat → Nat} {r : Nat → Nat → Nat} {F : gF} (hF : gFz E F) (o0 : Nat → Int32) (A0 : Nat → Nat → Int32) (C0 : Nat → Option Nat) (h0 : Nat) (o1 : Nat → Int32) (A1 : Nat → Nat → Int32) (C1 : Nat → Option Nat) (h1 : Nat) (o2 : Nat → Int32) (A2 : Nat → Nat → Int32) (C2 : Nat → Option Nat) (h2 : Nat) (gs0 : Int32) (gA : Nat → Nat → Int32) (tb0 : Int32) (tA0 bf0 : Nat → Int32) (hi0 : Int32) (x2 : Int32) {res : Int32 × Int32 × ((Nat → Int32)) × ((Nat → Int32)) × ((Nat → Int32)) × ((Nat → Int32)) × ((Nat → Int32))} (h : pX1_gradeHad_w1 F (o1 0) (o1 1) (o1 5) (A1 8) (A1 9) (A1 10) (A1 11) h1 C1 gs0 (gA 0) (gA 1) (gA 2) (gA 3) (gA 5) x2 = some res) : gMi yX1_gradeHad (.code yX1_gradeHad cX1_gradeHad 4 (some .int) :: gU) ({ frames := 9, cells := 0, slots := 0, locals := 260 } : Room) 0 0 E [.ref (q 3), .ref (q 1), .int x2] (cw E q r (gpl F) o0 A0 C0 h0 o1 A1 C1 h1 o2 A2 C2 h2 gs0 gA tb0 tA0 bf0 hi0) (fun v w => v = res.1 ∧ w = cw E q r (gpl F) o0 A0 C0 h0 o1 A1 C1 h1 o2 A2 C2 h2 res.2.1 (gu (gu (gu (gu (gu gA 0 res.2.2.1) 1 res.2.2.2.1) 2 res.2.2.2.2.1) 3 res.2.2.2.2.2.1) 5 res.2.2.2.2.2.2) tb0 tA0 bf0 hi0) := by
  refine g_met_i (by decide +kernel) (Nat.le_of_ble_eq_true rfl) (fun Γ K hn hE hRm _ hret => ?_)
  subst hE
  have hlt : ∀ i, i < 4 → i < g_n Γ := fun i q => by rw [hn]; exact q
  refine g_ws (ws' := cw (g_E Γ) q r (gpl F) o0 A0 C0 h0 o1 A1 C1 h1 o2 A2 C2 h2 gs0 (gu (gu (gu (gu (gu gA 0 (gA 0)) 1 (gA 1)) 2 (gA 2)) 3 (gA 3)) 5 (gA 5)) tb0 tA0 bf0 hi0) rfl ?_
  refine g_sub (L' := [(0, .ref (q 3)), (1, .ref (q 1)), (2, .int x2)]) [0, 1, 2] rfl ?_
  exact wX1_gradeHad_w1 (C0 := C0) (h0 := h0) (C1 := C1) (h1 := h1) (C2 := C2) (h2 := h2) (gs0 := gs0) (tb0 := tb0) (tA0 := tA0) (bf0 := bf0) (hi0 := hi0) hF K hlt hRm hret gs0 (gA 0) (gA 1) (gA 2) (gA 3) (gA 5) x2 h

set_option maxHeartbeats 4000000 in
set_option maxRecDepth 100000 in
theorem wX11_gradeUnder {Γ : gT} {q : Nat → Nat} {r : Nat → Nat → Nat} {F : gF} (hF : gFz (g_E Γ) F) {o0 : Nat → Int32} {A0 : Nat → Nat → Int32} {C0 : Nat → Option Nat} {h0 : Nat} {o1 : Nat → Int32} {A1 : Nat → Nat → Int32} {C1 : Nat → Option Nat} {h1 : Nat} {o2 : Nat → Int32} {A2 : Nat → Nat → Int32} {C2 : Nat → Option Nat} {h2 : Nat} {gs0 : Int32} {gA : Nat → Nat → Int32} {tb0 : Int32} {tA0 bf0 : Nat → Int32} {hi0 : Int32} (K : gOK Γ cX11_gradeUnder gU RX11) (hlt : ∀ i, i < 3 → i < g_n Γ) (hRm : g_R Γ = ({ frames := 10, cells := 0, slots := 0, locals := 283 } : Room)) {res : Int32 × Int32 × Int32 × Int32 × Int32 × Int32 × Int32 × Int32 × Int32 × ((Nat → Int32)) × ((Nat → Int32)) × ((Nat → Int32)) × ((Nat → Int32)) × ((Nat → Int32)) × ((Nat → Int32)) × ((Nat → Int32)) × ((Nat → Int32)) × ((Nat → Int32)) × Nat × ((Nat → Option Nat)) × Int32 × ((Nat → Int32)) × ((Nat → Int32)) × ((Nat → Int32)) × ((Nat → Int32)) × ((Nat → Int32))} (hret : ∀ (pc : Nat) (L : List (Nat × Value)) (v : Int32) (w : va_W), decode cX11_gradeUnder pc = .ok (.ireturn, 1) → narrow .int (.int v) = .int v → (v = res.1 ∧ w = cw (g_E Γ) q r (gpl F) o0 A0 C0 h0 (gu (gu (gu (gu (gu (gu (gu (gu o1 0 res.2.1) 1 res.2.2.1) 2 res.2.2.2.1) 3 res.2.2.2.2.1) 4 res.2.2.2.2.2.1) 5 res.2.2.2.2.2.2.1) 6 res.2.2.2.2.2.2.2.1) 7 res.2.2.2.2.2.2.2.2.1) (gu (gu (gu (gu (gu (gu (gu (gu (gu A1 8 res.2.2.2.2.2.2.2.2.2.1) 9 res.2.2.2.2.2.2.2.2.2.2.1) 10 res.2.2.2.2.2.2.2.2.2.2.2.1) 11 res.2.2.2.2.2.2.2.2.2.2.2.2.1) 12 res.2.2.2.2.2.2.2.2.2.2.2.2.2.1) 14 res.2.2.2.2.2.2.2.2.2.2.2.2.2.2.1) 15 res.2.2.2.2.2.2.2.2.2.2.2.2.2.2.2.1) 16 res.2.2.2.2.2.2.2.2.2.2.2.2.2.2.2.2.1) 17 res.2.2.2.2.2.2.2.2.2.2.2.2.2.2.2.2.2.1) res.2.2.2.2.2.2.2.2.2.2.2.2.2.2.2.2.2.2.2.1 res.2.2.2.2.2.2.2.2.2.2.2.2.2.2.2.2.2.2.1 o2 A2 C2 h2 res.2.2.2.2.2.2.2.2.2.2.2.2.2.2.2.2.2.2.2.2.1 (gu (gu (gu (gu (gu gA 0 res.2.2.2.2.2.2.2.2.2.2.2.2.2.2.2.2.2.2.2.2.2.1) 1 res.2.2.2.2.2.2.2.2.2.2.2.2.2.2.2.2.2.2.2.2.2.2.1) 2 res.2.2.2.2.2.2.2.2.2.2.2.2.2.2.2.2.2.2.2.2.2.2.2.1) 3 res.2.2.2.2.2.2.2.2.2.2.2.2.2.2.2.2.2.2.2.2.2.2.2.2.1) 5 res.2.2.2.2.2.2.2.2.2.2.2.2.2.2.2.2.2.2.2.2.2.2.2.2.2) tb0 tA0 bf0 hi0) → gGO Γ 0 0 pc L [.int v] w) (w1o0 : Int32) (w1o1 : Int32) (w1o2 : Int32) (w1o3 : Int32) (w1o4 : Int32) (w1o5 : Int32) (w1o6 : Int32) (w1o7 : Int32) (w1a8 : (Nat → Int32)) (w1a9 : (Nat → Int32)) (w1a10 : (Nat → Int32)) (w1a11 : (Nat → Int32)) (w1a12 : (Nat → Int32)) (w1a14 : (Nat → Int32)) (w1a15 : (Nat → Int32)) (w1a16 : (Nat → Int32)) (w1a17 : (Nat → Int32)) (w1h : Nat) (w1c : (Nat → Option Nat)) (gs : Int32) (ga0 : (Nat → Int32)) (ga1 : (Nat → Int32)) (ga2 : (Nat → Int32)) (ga3 : (Nat → Int32)) (ga5 : (Nat → Int32)) (x1 : Int32) (x2 : Nat) (h : pX11_gradeUnder F (o0 0) (o0 1) (o0 2) (o0 3) (o0 4) (o0 5) (o0 6) (o0 7) (A0 8) (A0 9) (A0 10) (A0 11) (A0 12) (A0 14) (A0 15) (A0 16) (A0 17) h0 C0 w1o0 w1o1 w1o2 w1o3 w1o4 w1o5 w1o6 w1o7 w1a8 w1a9 w1a10 w1a11 w1a12 w1a14 w1a15 w1a16 w1a17 w1h w1c gs ga0 ga1 ga2 ga3 ga5 x1 x2 = some res) : gGO Γ 0 0 0 [(0, .ref (q 5)), (1, .int x1), (2, .ref x2)] [] (cw (g_E Γ) q r (gpl F) o0 A0 C0 h0 (gu (gu (gu (gu (gu (gu (gu (gu o1 0 w1o0) 1 w1o1) 2 w1o2) 3 w1o3) 4 w1o4) 5 w1o5) 6 w1o6) 7 w1o7) (gu (gu (gu (gu (gu (gu (gu (gu (gu A1 8 w1a8) 9 w1a9) 10 w1a10) 11 w1a11) 12 w1a12) 14 w1a14) 15 w1a15) 16 w1a16) 17 w1a17) w1c w1h o2 A2 C2 h2 gs (gu (gu (gu (gu (gu gA 0 ga0) 1 ga1) 2 ga2) 3 ga3) 5 ga5) tb0 tA0 bf0 hi0) := by
    unfold pX11_gradeUnder at h
    refine g_aload_n K dX11_gradeUnder_0 rfl 0 rfl ?_
    refine g_get (v := .ref (q 1)) (T := TX11) (ref := "ChiefGrades") K hin_X11 0 rfl rfl 1 (by decide) u_325 (Or.inl rfl) rfl dX11_gradeUnder_1 ?_
    refine g_aload_n K dX11_gradeUnder_4 rfl 0 rfl ?_
    refine g_get (v := .ref (q 0)) (T := TX11) (ref := "ChiefGrades") K hin_X11 0 rfl rfl 0 (by decide) u_324 (Or.inl rfl) rfl dX11_gradeUnder_5 ?_
    obtain ⟨z_1, hz_1, h⟩ := gi_bd h
    refine g_callVv (As := [.ref (q 0)]) (bytes := cX10_become) (maxL := 3) (ret := none) K (ctX10_become_w1_w0 hF o0 A0 C0 h0 (gu (gu (gu (gu (gu (gu (gu (gu o1 0 w1o0) 1 w1o1) 2 w1o2) 3 w1o3) 4 w1o4) 5 w1o5) 6 w1o6) 7 w1o7) (gu (gu (gu (gu (gu (gu (gu (gu (gu A1 8 w1a8) 9 w1a9) 10 w1a10) 11 w1a11) 12 w1a12) 14 w1a14) 15 w1a15) 16 w1a16) 17 w1a17) w1c w1h o2 A2 C2 h2 gs (gu (gu (gu (gu (gu gA 0 ga0) 1 ga1) 2 ga2) 3 ga3) 5 ga5) tb0 tA0 bf0 hi0 (res := z_1) hz_1) gc_V_RX11_185_X10_become rfl qv_X10_become 2 rfl rfl rfl hRm rfl rfl rfl (by decide) (Nat.le_of_ble_eq_true rfl) (by decide) dX11_gradeUnder_8 (fun w hw => ?_)
    subst hw
    refine g_ws (ws' := cw (g_E Γ) q r (gpl F) o0 A0 C0 h0 (gu (gu (gu (gu (gu (gu (gu (gu o1 0 z_1.1) 1 z_1.2.1) 2 z_1.2.2.1) 3 z_1.2.2.2.1) 4 z_1.2.2.2.2.1) 5 z_1.2.2.2.2.2.1) 6 z_1.2.2.2.2.2.2.1) 7 z_1.2.2.2.2.2.2.2.1) (gu (gu (gu (gu (gu (gu (gu (gu (gu A1 8 z_1.2.2.2.2.2.2.2.2.1) 9 z_1.2.2.2.2.2.2.2.2.2.1) 10 z_1.2.2.2.2.2.2.2.2.2.2.1) 11 z_1.2.2.2.2.2.2.2.2.2.2.2.1) 12 z_1.2.2.2.2.2.2.2.2.2.2.2.2.1) 14 z_1.2.2.2.2.2.2.2.2.2.2.2.2.2.1) 15 z_1.2.2.2.2.2.2.2.2.2.2.2.2.2.2.1) 16 z_1.2.2.2.2.2.2.2.2.2.2.2.2.2.2.2.1) 17 z_1.2.2.2.2.2.2.2.2.2.2.2.2.2.2.2.2.1) z_1.2.2.2.2.2.2.2.2.2.2.2.2.2.2.2.2.2.2 z_1.2.2.2.2.2.2.2.2.2.2.2.2.2.2.2.2.2.1 o2 A2 C2 h2 gs (gu (gu (gu (gu (gu gA 0 ga0) 1 ga1) 2 ga2) 3 ga3) 5 ga5) tb0 tA0 bf0 hi0) rfl ?_
    refine g_aload_n K dX11_gradeUnder_11 rfl 0 rfl ?_
    refine g_get (v := .ref (q 1)) (T := TX11) (ref := "ChiefGrades") K hin_X11 0 rfl rfl 1 (by decide) u_325 (Or.inl rfl) rfl dX11_gradeUnder_12 ?_
    refine g_get (v := .ref (r 1 10)) (T := TX10) (ref := "ChiefGrades$World") K hin_X10 2 rfl rfl 10 (by decide) u_185 (Or.inl rfl) rfl dX11_gradeUnder_15 ?_
    refine g_iload_n K dX11_gradeUnder_18 rfl 1 rfl ?_
    refine g_aload_n K dX11_gradeUnder_19 rfl 2 rfl ?_
    obtain ⟨b_2, h⟩ := gi_none h
    refine chg_1 K hF b_2 hch u_262 dX11_gradeUnder_20 ?_
    obtain ⟨b_3, h⟩ := gi_none h
    obtain ⟨f_4, ef_4, h⟩ := gi_nm h
    refine g_iast (f := z_1.2.2.2.2.2.2.2.2.2.2.1) (ws' := cw (g_E Γ) q r (gpl F) o0 A0 C0 h0 (gu (gu (gu (gu (gu (gu (gu (gu o1 0 z_1.1) 1 z_1.2.1) 2 z_1.2.2.1) 3 z_1.2.2.2.1) 4 z_1.2.2.2.2.1) 5 z_1.2.2.2.2.2.1) 6 z_1.2.2.2.2.2.2.1) 7 z_1.2.2.2.2.2.2.2.1) (gu (gu (gu (gu (gu (gu (gu (gu (gu A1 8 z_1.2.2.2.2.2.2.2.2.1) 9 z_1.2.2.2.2.2.2.2.2.2.1) 10 f_4) 11 z_1.2.2.2.2.2.2.2.2.2.2.2.1) 12 z_1.2.2.2.2.2.2.2.2.2.2.2.2.1) 14 z_1.2.2.2.2.2.2.2.2.2.2.2.2.2.1) 15 z_1.2.2.2.2.2.2.2.2.2.2.2.2.2.2.1) 16 z_1.2.2.2.2.2.2.2.2.2.2.2.2.2.2.2.1) 17 z_1.2.2.2.2.2.2.2.2.2.2.2.2.2.2.2.2.1) z_1.2.2.2.2.2.2.2.2.2.2.2.2.2.2.2.2.2.2 z_1.2.2.2.2.2.2.2.2.2.2.2.2.2.2.2.2.2.1 o2 A2 C2 h2 gs (gu (gu (gu (gu (gu gA 0 ga0) 1 ga1) 2 ga2) 3 ga3) 5 ga5) tb0 tA0 bf0 hi0) K 18 rfl (ginb_in b_3) dX11_gradeUnder_23 (by rw [ef_4]; rfl) ?_
    refine g_aload_n K dX11_gradeUnder_24 rfl 0 rfl ?_
    refine g_get (v := .ref (q 3)) (T := TX11) (ref := "ChiefGrades") K hin_X11 0 rfl rfl 3 (by decide) u_327 (Or.inl rfl) rfl dX11_gradeUnder_25 ?_
    refine g_aload_n K dX11_gradeUnder_28 rfl 0 rfl ?_
    refine g_get (v := .ref (q 1)) (T := TX11) (ref := "ChiefGrades") K hin_X11 0 rfl rfl 1 (by decide) u_325 (Or.inl rfl) rfl dX11_gradeUnder_29 ?_
    refine g_iload_n K dX11_gradeUnder_32 rfl 1 rfl ?_
    obtain ⟨z_5, hz_5, h⟩ := gi_bd h
    refine g_callVi (As := [.ref (q 1), .int x1]) (bytes := cX1_gradeHad) (maxL := 4) (ret := (some .int)) K (ctX1_gradeHad_w1 hF o0 A0 C0 h0 (gu (gu (gu (gu (gu (gu (gu (gu o1 0 z_1.1) 1 z_1.2.1) 2 z_1.2.2.1) 3 z_1.2.2.2.1) 4 z_1.2.2.2.2.1) 5 z_1.2.2.2.2.2.1) 6 z_1.2.2.2.2.2.2.1) 7 z_1.2.2.2.2.2.2.2.1) (gu (gu (gu (gu (gu (gu (gu (gu (gu A1 8 z_1.2.2.2.2.2.2.2.2.1) 9 z_1.2.2.2.2.2.2.2.2.2.1) 10 f_4) 11 z_1.2.2.2.2.2.2.2.2.2.2.2.1) 12 z_1.2.2.2.2.2.2.2.2.2.2.2.2.1) 14 z_1.2.2.2.2.2.2.2.2.2.2.2.2.2.1) 15 z_1.2.2.2.2.2.2.2.2.2.2.2.2.2.2.1) 16 z_1.2.2.2.2.2.2.2.2.2.2.2.2.2.2.2.1) 17 z_1.2.2.2.2.2.2.2.2.2.2.2.2.2.2.2.2.1) z_1.2.2.2.2.2.2.2.2.2.2.2.2.2.2.2.2.2.2 z_1.2.2.2.2.2.2.2.2.2.2.2.2.2.2.2.2.2.1 o2 A2 C2 h2 gs (gu (gu (gu (gu (gu gA 0 ga0) 1 ga1) 2 ga2) 3 ga3) 5 ga5) tb0 tA0 bf0 hi0 x1 (res := z_5) hz_5) gc_V_RX11_130_X1_gradeHad rfl qv_X1_gradeHad 4 rfl rfl rfl hRm rfl rfl rfl (by decide) (Nat.le_of_ble_eq_true rfl) (by decide) dX11_gradeUnder_33 (fun v w hw => ?_)
    obtain ⟨hv9, rfl⟩ := hw; have hv9 := hv9.symm; subst hv9
    refine g_ws (ws' := cw (g_E Γ) q r (gpl F) o0 A0 C0 h0 (gu (gu (gu (gu (gu (gu (gu (gu o1 0 z_1.1) 1 z_1.2.1) 2 z_1.2.2.1) 3 z_1.2.2.2.1) 4 z_1.2.2.2.2.1) 5 z_1.2.2.2.2.2.1) 6 z_1.2.2.2.2.2.2.1) 7 z_1.2.2.2.2.2.2.2.1) (gu (gu (gu (gu (gu (gu (gu (gu (gu A1 8 z_1.2.2.2.2.2.2.2.2.1) 9 z_1.2.2.2.2.2.2.2.2.2.1) 10 f_4) 11 z_1.2.2.2.2.2.2.2.2.2.2.2.1) 12 z_1.2.2.2.2.2.2.2.2.2.2.2.2.1) 14 z_1.2.2.2.2.2.2.2.2.2.2.2.2.2.1) 15 z_1.2.2.2.2.2.2.2.2.2.2.2.2.2.2.1) 16 z_1.2.2.2.2.2.2.2.2.2.2.2.2.2.2.2.1) 17 z_1.2.2.2.2.2.2.2.2.2.2.2.2.2.2.2.2.1) z_1.2.2.2.2.2.2.2.2.2.2.2.2.2.2.2.2.2.2 z_1.2.2.2.2.2.2.2.2.2.2.2.2.2.2.2.2.2.1 o2 A2 C2 h2 z_5.2.1 (gu (gu (gu (gu (gu gA 0 z_5.2.2.1) 1 z_5.2.2.2.1) 2 z_5.2.2.2.2.1) 3 z_5.2.2.2.2.2.1) 5 z_5.2.2.2.2.2.2) tb0 tA0 bf0 hi0) rfl ?_
    obtain rfl := Option.some.inj h
    exact hret _ _ _ _ dX11_gradeUnder_36 rfl ⟨rfl, rfl⟩

set_option maxRecDepth 100000 in
theorem ctX11_gradeUnder {E : gE} {q : Nat → Nat} {r : Nat → Nat → Nat} {F : gF} (hF : gFz E F) (o0 : Nat → Int32) (A0 : Nat → Nat → Int32) (C0 : Nat → Option Nat) (h0 : Nat) (o1 : Nat → Int32) (A1 : Nat → Nat → Int32) (C1 : Nat → Option Nat) (h1 : Nat) (o2 : Nat → Int32) (A2 : Nat → Nat → Int32) (C2 : Nat → Option Nat) (h2 : Nat) (gs0 : Int32) (gA : Nat → Nat → Int32) (tb0 : Int32) (tA0 bf0 : Nat → Int32) (hi0 : Int32) (x1 : Int32) (x2 : Nat) {res : Int32 × Int32 × Int32 × Int32 × Int32 × Int32 × Int32 × Int32 × Int32 × ((Nat → Int32)) × ((Nat → Int32)) × ((Nat → Int32)) × ((Nat → Int32)) × ((Nat → Int32)) × ((Nat → Int32)) × ((Nat → Int32)) × ((Nat → Int32)) × ((Nat → Int32)) × Nat × ((Nat → Option Nat)) × Int32 × ((Nat → Int32)) × ((Nat → Int32)) × ((Nat → Int32)) × ((Nat → Int32)) × ((Nat → Int32))} (h : pX11_gradeUnder F (o0 0) (o0 1) (o0 2) (o0 3) (o0 4) (o0 5) (o0 6) (o0 7) (A0 8) (A0 9) (A0 10) (A0 11) (A0 12) (A0 14) (A0 15) (A0 16) (A0 17) h0 C0 (o1 0) (o1 1) (o1 2) (o1 3) (o1 4) (o1 5) (o1 6) (o1 7) (A1 8) (A1 9) (A1 10) (A1 11) (A1 12) (A1 14) (A1 15) (A1 16) (A1 17) h1 C1 gs0 (gA 0) (gA 1) (gA 2) (gA 3) (gA 5) x1 x2 = some res) : gMi yX11_gradeUnder (.code yX11_gradeUnder cX11_gradeUnder 3 (some .int) :: gU) ({ frames := 10, cells := 0, slots := 0, locals := 283 } : Room) 0 0 E [.ref (q 5), .int x1, .ref x2] (cw E q r (gpl F) o0 A0 C0 h0 o1 A1 C1 h1 o2 A2 C2 h2 gs0 gA tb0 tA0 bf0 hi0) (fun v w => v = res.1 ∧ w = cw E q r (gpl F) o0 A0 C0 h0 (gu (gu (gu (gu (gu (gu (gu (gu o1 0 res.2.1) 1 res.2.2.1) 2 res.2.2.2.1) 3 res.2.2.2.2.1) 4 res.2.2.2.2.2.1) 5 res.2.2.2.2.2.2.1) 6 res.2.2.2.2.2.2.2.1) 7 res.2.2.2.2.2.2.2.2.1) (gu (gu (gu (gu (gu (gu (gu (gu (gu A1 8 res.2.2.2.2.2.2.2.2.2.1) 9 res.2.2.2.2.2.2.2.2.2.2.1) 10 res.2.2.2.2.2.2.2.2.2.2.2.1) 11 res.2.2.2.2.2.2.2.2.2.2.2.2.1) 12 res.2.2.2.2.2.2.2.2.2.2.2.2.2.1) 14 res.2.2.2.2.2.2.2.2.2.2.2.2.2.2.1) 15 res.2.2.2.2.2.2.2.2.2.2.2.2.2.2.2.1) 16 res.2.2.2.2.2.2.2.2.2.2.2.2.2.2.2.2.1) 17 res.2.2.2.2.2.2.2.2.2.2.2.2.2.2.2.2.2.1) res.2.2.2.2.2.2.2.2.2.2.2.2.2.2.2.2.2.2.2.1 res.2.2.2.2.2.2.2.2.2.2.2.2.2.2.2.2.2.2.1 o2 A2 C2 h2 res.2.2.2.2.2.2.2.2.2.2.2.2.2.2.2.2.2.2.2.2.1 (gu (gu (gu (gu (gu gA 0 res.2.2.2.2.2.2.2.2.2.2.2.2.2.2.2.2.2.2.2.2.2.1) 1 res.2.2.2.2.2.2.2.2.2.2.2.2.2.2.2.2.2.2.2.2.2.2.1) 2 res.2.2.2.2.2.2.2.2.2.2.2.2.2.2.2.2.2.2.2.2.2.2.2.1) 3 res.2.2.2.2.2.2.2.2.2.2.2.2.2.2.2.2.2.2.2.2.2.2.2.2.1) 5 res.2.2.2.2.2.2.2.2.2.2.2.2.2.2.2.2.2.2.2.2.2.2.2.2.2) tb0 tA0 bf0 hi0) := by
  refine g_met_i (by decide +kernel) (Nat.le_of_ble_eq_true rfl) (fun Γ K hn hE hRm _ hret => ?_)
  subst hE
  have hlt : ∀ i, i < 3 → i < g_n Γ := fun i q => by rw [hn]; exact q
  refine g_ws (ws' := cw (g_E Γ) q r (gpl F) o0 A0 C0 h0 (gu (gu (gu (gu (gu (gu (gu (gu o1 0 (o1 0)) 1 (o1 1)) 2 (o1 2)) 3 (o1 3)) 4 (o1 4)) 5 (o1 5)) 6 (o1 6)) 7 (o1 7)) (gu (gu (gu (gu (gu (gu (gu (gu (gu A1 8 (A1 8)) 9 (A1 9)) 10 (A1 10)) 11 (A1 11)) 12 (A1 12)) 14 (A1 14)) 15 (A1 15)) 16 (A1 16)) 17 (A1 17)) C1 h1 o2 A2 C2 h2 gs0 (gu (gu (gu (gu (gu gA 0 (gA 0)) 1 (gA 1)) 2 (gA 2)) 3 (gA 3)) 5 (gA 5)) tb0 tA0 bf0 hi0) rfl ?_
  refine g_sub (L' := [(0, .ref (q 5)), (1, .int x1), (2, .ref x2)]) [0, 1, 2] rfl ?_
  exact wX11_gradeUnder (C0 := C0) (h0 := h0) (C1 := C1) (h1 := h1) (C2 := C2) (h2 := h2) (gs0 := gs0) (tb0 := tb0) (tA0 := tA0) (bf0 := bf0) (hi0 := hi0) hF K hlt hRm hret (o1 0) (o1 1) (o1 2) (o1 3) (o1 4) (o1 5) (o1 6) (o1 7) (A1 8) (A1 9) (A1 10) (A1 11) (A1 12) (A1 14) (A1 15) (A1 16) (A1 17) h1 C1 gs0 (gA 0) (gA 1) (gA 2) (gA 3) (gA 5) x1 x2 h

