set_option maxHeartbeats 4000000 in
set_option maxRecDepth 100000 in
theorem wX11_feed {Γ : gT} {q : Nat → Nat} {r : Nat → Nat → Nat} {F : gF} (hF : gFz (g_E Γ) F) {o0 : Nat → Int32} {A0 : Nat → Nat → Int32} {C0 : Nat → Option Nat} {h0 : Nat} {o1 : Nat → Int32} {A1 : Nat → Nat → Int32} {C1 : Nat → Option Nat} {h1 : Nat} {o2 : Nat → Int32} {A2 : Nat → Nat → Int32} {C2 : Nat → Option Nat} {h2 : Nat} {gs0 : Int32} {gA : Nat → Nat → Int32} {tb0 : Int32} {tA0 bf0 : Nat → Int32} {hi0 : Int32} (K : gOK Γ cX11_feed gU RX11) (hlt : ∀ i, i < 2 → i < g_n Γ) (hRm : g_R Γ = ({ frames := 4, cells := 0, slots := 0, locals := 150 } : Room)) {res : Int32 × Int32 × ((Nat → Int32))} (hret : ∀ (pc : Nat) (L : List (Nat × Value)) (v : Int32) (w : va_W), decode cX11_feed pc = .ok (.ireturn, 1) → narrow .int (.int v) = .int v → (v = res.1 ∧ w = cw (g_E Γ) q r (gpl F) (gu o0 4 res.2.1) (gu A0 17 res.2.2) C0 h0 o1 A1 C1 h1 o2 A2 C2 h2 gs0 gA tb0 tA0 bf0 hi0) → gGO Γ 0 0 pc L [.int v] w) (w0o4 : Int32) (w0a17 : (Nat → Int32)) (x1 : Int32) (h : pX11_feed w0o4 w0a17 x1 = some res) : gGO Γ 0 0 0 [(0, .ref (q 5)), (1, .int x1)] [] (cw (g_E Γ) q r (gpl F) (gu o0 4 w0o4) (gu A0 17 w0a17) C0 h0 o1 A1 C1 h1 o2 A2 C2 h2 gs0 gA tb0 tA0 bf0 hi0) := by
    unfold pX11_feed at h
    refine g_iload_n K dX11_feed_0 rfl 1 rfl ?_
    obtain ⟨ht9, hf9⟩ := gi_br h; clear h
    refine g_if_lt (tgt := 10) K dX11_feed_1 (by decide) (fun qh => ?_) (fun qh => ?_)
    · have h := ht9 qh; clear ht9 hf9
      refine g_bipush (v := (-2)) K dX11_feed_10 (by decide) ?_
      obtain rfl := Option.some.inj h
      exact hret _ _ _ _ dX11_feed_12 rfl ⟨rfl, rfl⟩
    · have h := hf9 qh; clear ht9 hf9
      refine g_iload_n K dX11_feed_4 rfl 1 rfl ?_
      refine g_bipush (v := 127) K dX11_feed_5 (by decide) ?_
      obtain ⟨ht9, hf9⟩ := gi_br h; clear h
      refine g_icmp_le (tgt := 13) K dX11_feed_7 (by decide) (fun qh => ?_) (fun qh => ?_)
      · have h := ht9 qh; clear ht9 hf9
        refine g_aload_n K dX11_feed_13 rfl 0 rfl ?_
        refine g_get (v := .ref (q 0)) (T := TX11) (ref := "ChiefGrades") K hin_X11 0 rfl rfl 0 (by decide) u_324 (Or.inl rfl) rfl dX11_feed_14 ?_
        refine g_get (v := .int w0o4) (T := TX10) (ref := "ChiefGrades$World") K hin_X10 1 rfl rfl 4 (by decide) u_168 (Or.inl rfl) rfl dX11_feed_17 ?_
        refine g_bipush (v := 100) K dX11_feed_20 (by decide) ?_
        obtain ⟨ht9, hf9⟩ := gi_br h; clear h
        refine g_icmp_lt (tgt := 28) K dX11_feed_22 (by decide) (fun qh => ?_) (fun qh => ?_)
        · have h := ht9 qh; clear ht9 hf9
          refine g_aload_n K dX11_feed_28 rfl 0 rfl ?_
          refine g_get (v := .ref (q 0)) (T := TX11) (ref := "ChiefGrades") K hin_X11 0 rfl rfl 0 (by decide) u_324 (Or.inl rfl) rfl dX11_feed_29 ?_
          refine g_get (v := .ref (r 0 17)) (T := TX10) (ref := "ChiefGrades$World") K hin_X10 1 rfl rfl 17 (by decide) u_200 (Or.inl rfl) rfl dX11_feed_32 ?_
          refine g_aload_n K dX11_feed_35 rfl 0 rfl ?_
          refine g_get (v := .ref (q 0)) (T := TX11) (ref := "ChiefGrades") K hin_X11 0 rfl rfl 0 (by decide) u_324 (Or.inl rfl) rfl dX11_feed_36 ?_
          refine g_get (v := .int w0o4) (T := TX10) (ref := "ChiefGrades$World") K hin_X10 1 rfl rfl 4 (by decide) u_168 (Or.inl rfl) rfl dX11_feed_39 ?_
          refine g_iload_n K dX11_feed_42 rfl 1 rfl ?_
          refine g_i2c K dX11_feed_43 ?_
          obtain ⟨b_1, h⟩ := gi_none h
          obtain ⟨f_2, ef_2, h⟩ := gi_nm h
          refine g_cast (f := w0a17) (ws' := cw (g_E Γ) q r (gpl F) (gu o0 4 w0o4) (gu A0 17 f_2) C0 h0 o1 A1 C1 h1 o2 A2 C2 h2 gs0 gA tb0 tA0 bf0 hi0) K 15 rfl (ginb_in b_1) dX11_feed_44 (by rw [ef_2]; rfl) ?_
          refine g_aload_n K dX11_feed_45 rfl 0 rfl ?_
          refine g_get (v := .ref (q 0)) (T := TX11) (ref := "ChiefGrades") K hin_X11 0 rfl rfl 0 (by decide) u_324 (Or.inl rfl) rfl dX11_feed_46 ?_
          refine g_dup K dX11_feed_49 rfl ?_
          refine g_get (v := .int w0o4) (T := TX10) (ref := "ChiefGrades$World") K hin_X10 1 rfl rfl 4 (by decide) u_168 (Or.inl rfl) rfl dX11_feed_50 ?_
          refine g_iconst (v := 1) K dX11_feed_53 (by decide) ?_
          refine g_iadd K dX11_feed_54 ?_
          refine g_put (v := .int (w0o4 + 1)) (ws' := cw (g_E Γ) q r (gpl F) (gu o0 4 (w0o4 + 1)) (gu A0 17 f_2) C0 h0 o1 A1 C1 h1 o2 A2 C2 h2 gs0 gA tb0 tA0 bf0 hi0) (T := TX10) (ref := "ChiefGrades$World") (ty := .int) K hin_X10 tyX10_ok nmX10 1 rfl rfl 4 (by decide) u_168 rfl rfl (by decide +kernel) rfl rfl (Nat.le_of_ble_eq_true rfl) dX11_feed_55 rfl ?_
          refine g_aload_n K dX11_feed_58 rfl 0 rfl ?_
          refine g_get (v := .ref (q 0)) (T := TX11) (ref := "ChiefGrades") K hin_X11 0 rfl rfl 0 (by decide) u_324 (Or.inl rfl) rfl dX11_feed_59 ?_
          refine g_get (v := .int (w0o4 + 1)) (T := TX10) (ref := "ChiefGrades$World") K hin_X10 1 rfl rfl 4 (by decide) u_168 (Or.inl rfl) rfl dX11_feed_62 ?_
          obtain rfl := Option.some.inj h
          exact hret _ _ _ _ dX11_feed_65 rfl ⟨rfl, rfl⟩
        · have h := hf9 qh; clear ht9 hf9
          refine g_bipush (v := (-4)) K dX11_feed_25 (by decide) ?_
          obtain rfl := Option.some.inj h
          exact hret _ _ _ _ dX11_feed_27 rfl ⟨rfl, rfl⟩
      · have h := hf9 qh; clear ht9 hf9
        refine g_bipush (v := (-2)) K dX11_feed_10 (by decide) ?_
        obtain rfl := Option.some.inj h
        exact hret _ _ _ _ dX11_feed_12 rfl ⟨rfl, rfl⟩

set_option maxRecDepth 100000 in
theorem ctX11_feed {E : gE} {q : Nat → Nat} {r : Nat → Nat → Nat} {F : gF} (hF : gFz E F) (o0 : Nat → Int32) (A0 : Nat → Nat → Int32) (C0 : Nat → Option Nat) (h0 : Nat) (o1 : Nat → Int32) (A1 : Nat → Nat → Int32) (C1 : Nat → Option Nat) (h1 : Nat) (o2 : Nat → Int32) (A2 : Nat → Nat → Int32) (C2 : Nat → Option Nat) (h2 : Nat) (gs0 : Int32) (gA : Nat → Nat → Int32) (tb0 : Int32) (tA0 bf0 : Nat → Int32) (hi0 : Int32) (x1 : Int32) {res : Int32 × Int32 × ((Nat → Int32))} (h : pX11_feed (o0 4) (A0 17) x1 = some res) : gMi yX11_feed (.code yX11_feed cX11_feed 2 (some .int) :: gU) ({ frames := 4, cells := 0, slots := 0, locals := 150 } : Room) 0 0 E [.ref (q 5), .int x1] (cw E q r (gpl F) o0 A0 C0 h0 o1 A1 C1 h1 o2 A2 C2 h2 gs0 gA tb0 tA0 bf0 hi0) (fun v w => v = res.1 ∧ w = cw E q r (gpl F) (gu o0 4 res.2.1) (gu A0 17 res.2.2) C0 h0 o1 A1 C1 h1 o2 A2 C2 h2 gs0 gA tb0 tA0 bf0 hi0) := by
  refine g_met_i (by decide +kernel) (Nat.le_of_ble_eq_true rfl) (fun Γ K hn hE hRm _ hret => ?_)
  subst hE
  have hlt : ∀ i, i < 2 → i < g_n Γ := fun i q => by rw [hn]; exact q
  refine g_ws (ws' := cw (g_E Γ) q r (gpl F) (gu o0 4 (o0 4)) (gu A0 17 (A0 17)) C0 h0 o1 A1 C1 h1 o2 A2 C2 h2 gs0 gA tb0 tA0 bf0 hi0) rfl ?_
  refine g_sub (L' := [(0, .ref (q 5)), (1, .int x1)]) [0, 1] rfl ?_
  exact wX11_feed (C0 := C0) (h0 := h0) (C1 := C1) (h1 := h1) (C2 := C2) (h2 := h2) (gs0 := gs0) (tb0 := tb0) (tA0 := tA0) (bf0 := bf0) (hi0 := hi0) hF K hlt hRm hret (o0 4) (A0 17) x1 h

set_option maxHeartbeats 4000000 in
set_option maxRecDepth 100000 in
theorem wX11_told {Γ : gT} {q : Nat → Nat} {r : Nat → Nat → Nat} {F : gF} (hF : gFz (g_E Γ) F) {o0 : Nat → Int32} {A0 : Nat → Nat → Int32} {C0 : Nat → Option Nat} {h0 : Nat} {o1 : Nat → Int32} {A1 : Nat → Nat → Int32} {C1 : Nat → Option Nat} {h1 : Nat} {o2 : Nat → Int32} {A2 : Nat → Nat → Int32} {C2 : Nat → Option Nat} {h2 : Nat} {gs0 : Int32} {gA : Nat → Nat → Int32} {tb0 : Int32} {tA0 bf0 : Nat → Int32} {hi0 : Int32} (K : gOK Γ cX11_told gU RX11) (hlt : ∀ i, i < 2 → i < g_n Γ) (hRm : g_R Γ = ({ frames := 4, cells := 0, slots := 0, locals := 150 } : Room)) {res : Int32} (hret : ∀ (pc : Nat) (L : List (Nat × Value)) (v : Int32) (w : va_W), decode cX11_told pc = .ok (.ireturn, 1) → narrow .int (.int v) = .int v → (v = res ∧ w = cw (g_E Γ) q r (gpl F) o0 A0 C0 h0 o1 A1 C1 h1 o2 A2 C2 h2 gs0 gA tb0 tA0 bf0 hi0) → gGO Γ 0 0 pc L [.int v] w) (x1 : Int32) (h : pX11_told F (o0 5) (o0 6) (o0 7) h0 x1 = some res) : gGO Γ 0 0 0 [(0, .ref (q 5)), (1, .int x1)] [] (cw (g_E Γ) q r (gpl F) o0 A0 C0 h0 o1 A1 C1 h1 o2 A2 C2 h2 gs0 gA tb0 tA0 bf0 hi0) := by
    unfold pX11_told at h
    refine g_iload_n K dX11_told_0 rfl 1 rfl ?_
    obtain ⟨ht9, hf9⟩ := gi_br h; clear h
    by_cases q0 : x1 = 0
    · have h := ht9 q0; clear ht9 hf9
      refine g_tabIn (tgt := 40) K dX11_told_1 (by rw [q0]; decide) (by rw [q0]; decide) (by rw [q0]; rfl) (by decide) ?_
      refine g_aload_n K dX11_told_40 rfl 0 rfl ?_
      refine g_get (v := .ref (q 0)) (T := TX11) (ref := "ChiefGrades") K hin_X11 0 rfl rfl 0 (by decide) u_324 (Or.inl rfl) rfl dX11_told_41 ?_
      refine g_get (v := .ref h0) (T := TX10) (ref := "ChiefGrades$World") K hin_X10 1 rfl rfl 18 (by decide) u_203 (Or.inl rfl) rfl dX11_told_44 ?_
      obtain ⟨b_1, h⟩ := gi_none h
      refine hsg_0 K hF b_1 hin_X2 u_118 dX11_told_47 ?_
      obtain rfl := Option.some.inj h
      exact hret _ _ _ _ dX11_told_50 rfl ⟨rfl, rfl⟩
    have h := hf9 q0; clear ht9 hf9
    obtain ⟨ht9, hf9⟩ := gi_br h; clear h
    by_cases q1 : x1 = 1
    · have h := ht9 q1; clear ht9 hf9
      refine g_tabIn (tgt := 51) K dX11_told_1 (by rw [q1]; decide) (by rw [q1]; decide) (by rw [q1]; rfl) (by decide) ?_
      refine g_aload_n K dX11_told_51 rfl 0 rfl ?_
      refine g_get (v := .ref (q 0)) (T := TX11) (ref := "ChiefGrades") K hin_X11 0 rfl rfl 0 (by decide) u_324 (Or.inl rfl) rfl dX11_told_52 ?_
      refine g_get (v := .ref h0) (T := TX10) (ref := "ChiefGrades$World") K hin_X10 1 rfl rfl 18 (by decide) u_203 (Or.inl rfl) rfl dX11_told_55 ?_
      obtain ⟨b_2, h⟩ := gi_none h
      refine hsg_1 K hF b_2 hin_X2 u_121 dX11_told_58 ?_
      obtain rfl := Option.some.inj h
      exact hret _ _ _ _ dX11_told_61 rfl ⟨rfl, rfl⟩
    have h := hf9 q1; clear ht9 hf9
    obtain ⟨ht9, hf9⟩ := gi_br h; clear h
    by_cases q2 : x1 = 2
    · have h := ht9 q2; clear ht9 hf9
      refine g_tabIn (tgt := 62) K dX11_told_1 (by rw [q2]; decide) (by rw [q2]; decide) (by rw [q2]; rfl) (by decide) ?_
      refine g_aload_n K dX11_told_62 rfl 0 rfl ?_
      refine g_get (v := .ref (q 0)) (T := TX11) (ref := "ChiefGrades") K hin_X11 0 rfl rfl 0 (by decide) u_324 (Or.inl rfl) rfl dX11_told_63 ?_
      refine g_get (v := .ref h0) (T := TX10) (ref := "ChiefGrades$World") K hin_X10 1 rfl rfl 18 (by decide) u_203 (Or.inl rfl) rfl dX11_told_66 ?_
      obtain ⟨b_3, h⟩ := gi_none h
      refine hsg_2 K hF b_3 hin_X2 u_124 dX11_told_69 ?_
      obtain rfl := Option.some.inj h
      exact hret _ _ _ _ dX11_told_72 rfl ⟨rfl, rfl⟩
    have h := hf9 q2; clear ht9 hf9
    obtain ⟨ht9, hf9⟩ := gi_br h; clear h
    by_cases q3 : x1 = 3
    · have h := ht9 q3; clear ht9 hf9
      refine g_tabIn (tgt := 73) K dX11_told_1 (by rw [q3]; decide) (by rw [q3]; decide) (by rw [q3]; rfl) (by decide) ?_
      refine g_aload_n K dX11_told_73 rfl 0 rfl ?_
      refine g_get (v := .ref (q 0)) (T := TX11) (ref := "ChiefGrades") K hin_X11 0 rfl rfl 0 (by decide) u_324 (Or.inl rfl) rfl dX11_told_74 ?_
      refine g_get (v := .int (o0 5)) (T := TX10) (ref := "ChiefGrades$World") K hin_X10 1 rfl rfl 5 (by decide) u_172 (Or.inl rfl) rfl dX11_told_77 ?_
      obtain rfl := Option.some.inj h
      exact hret _ _ _ _ dX11_told_80 rfl ⟨rfl, rfl⟩
    have h := hf9 q3; clear ht9 hf9
    obtain ⟨ht9, hf9⟩ := gi_br h; clear h
    by_cases q4 : x1 = 4
    · have h := ht9 q4; clear ht9 hf9
      refine g_tabIn (tgt := 81) K dX11_told_1 (by rw [q4]; decide) (by rw [q4]; decide) (by rw [q4]; rfl) (by decide) ?_
      refine g_aload_n K dX11_told_81 rfl 0 rfl ?_
      refine g_get (v := .ref (q 0)) (T := TX11) (ref := "ChiefGrades") K hin_X11 0 rfl rfl 0 (by decide) u_324 (Or.inl rfl) rfl dX11_told_82 ?_
      refine g_get (v := .int (o0 6)) (T := TX10) (ref := "ChiefGrades$World") K hin_X10 1 rfl rfl 6 (by decide) u_174 (Or.inl rfl) rfl dX11_told_85 ?_
      obtain rfl := Option.some.inj h
      exact hret _ _ _ _ dX11_told_88 rfl ⟨rfl, rfl⟩
    have h := hf9 q4; clear ht9 hf9
    obtain ⟨ht9, hf9⟩ := gi_br h; clear h
    by_cases q5 : x1 = 5
    · have h := ht9 q5; clear ht9 hf9
      refine g_tabIn (tgt := 89) K dX11_told_1 (by rw [q5]; decide) (by rw [q5]; decide) (by rw [q5]; rfl) (by decide) ?_
      refine g_aload_n K dX11_told_89 rfl 0 rfl ?_
      refine g_get (v := .ref (q 0)) (T := TX11) (ref := "ChiefGrades") K hin_X11 0 rfl rfl 0 (by decide) u_324 (Or.inl rfl) rfl dX11_told_90 ?_
      refine g_get (v := .int (o0 7)) (T := TX10) (ref := "ChiefGrades$World") K hin_X10 1 rfl rfl 7 (by decide) u_176 (Or.inl rfl) rfl dX11_told_93 ?_
      obtain rfl := Option.some.inj h
      exact hret _ _ _ _ dX11_told_96 rfl ⟨rfl, rfl⟩
    have h := hf9 q5; clear ht9 hf9
    refine g_tabOut (tgt := 97) K dX11_told_1 (by have t0 := gi_ne (z := 0) q0 (by decide); have t1 := gi_ne (z := 1) q1 (by decide); have t2 := gi_ne (z := 2) q2 (by decide); have t3 := gi_ne (z := 3) q3 (by decide); have t4 := gi_ne (z := 4) q4 (by decide); have t5 := gi_ne (z := 5) q5 (by decide); omega) (by decide) ?_
    refine g_iconst (v := (-1)) K dX11_told_97 (by decide) ?_
    obtain rfl := Option.some.inj h
    exact hret _ _ _ _ dX11_told_98 rfl ⟨rfl, rfl⟩

set_option maxRecDepth 100000 in
theorem ctX11_told {E : gE} {q : Nat → Nat} {r : Nat → Nat → Nat} {F : gF} (hF : gFz E F) (o0 : Nat → Int32) (A0 : Nat → Nat → Int32) (C0 : Nat → Option Nat) (h0 : Nat) (o1 : Nat → Int32) (A1 : Nat → Nat → Int32) (C1 : Nat → Option Nat) (h1 : Nat) (o2 : Nat → Int32) (A2 : Nat → Nat → Int32) (C2 : Nat → Option Nat) (h2 : Nat) (gs0 : Int32) (gA : Nat → Nat → Int32) (tb0 : Int32) (tA0 bf0 : Nat → Int32) (hi0 : Int32) (x1 : Int32) {res : Int32} (h : pX11_told F (o0 5) (o0 6) (o0 7) h0 x1 = some res) : gMi yX11_told (.code yX11_told cX11_told 2 (some .int) :: gU) ({ frames := 4, cells := 0, slots := 0, locals := 150 } : Room) 0 0 E [.ref (q 5), .int x1] (cw E q r (gpl F) o0 A0 C0 h0 o1 A1 C1 h1 o2 A2 C2 h2 gs0 gA tb0 tA0 bf0 hi0) (fun v w => v = res ∧ w = cw E q r (gpl F) o0 A0 C0 h0 o1 A1 C1 h1 o2 A2 C2 h2 gs0 gA tb0 tA0 bf0 hi0) := by
  refine g_met_i (by decide +kernel) (Nat.le_of_ble_eq_true rfl) (fun Γ K hn hE hRm _ hret => ?_)
  subst hE
  have hlt : ∀ i, i < 2 → i < g_n Γ := fun i q => by rw [hn]; exact q
  refine g_sub (L' := [(0, .ref (q 5)), (1, .int x1)]) [0, 1] rfl ?_
  exact wX11_told (C0 := C0) (h0 := h0) (C1 := C1) (h1 := h1) (C2 := C2) (h2 := h2) (gs0 := gs0) (tb0 := tb0) (tA0 := tA0) (bf0 := bf0) (hi0 := hi0) hF K hlt hRm hret x1 h

set_option maxHeartbeats 4000000 in
set_option maxRecDepth 100000 in
theorem wX10_chiefAt_w0 {Γ : gT} {q : Nat → Nat} {r : Nat → Nat → Nat} {F : gF} (hF : gFz (g_E Γ) F) {o0 : Nat → Int32} {A0 : Nat → Nat → Int32} {C0 : Nat → Option Nat} {h0 : Nat} {o1 : Nat → Int32} {A1 : Nat → Nat → Int32} {C1 : Nat → Option Nat} {h1 : Nat} {o2 : Nat → Int32} {A2 : Nat → Nat → Int32} {C2 : Nat → Option Nat} {h2 : Nat} {gs0 : Int32} {gA : Nat → Nat → Int32} {tb0 : Int32} {tA0 bf0 : Nat → Int32} {hi0 : Int32} (K : gOK Γ cX10_chiefAt gU RX10) (hlt : ∀ i, i < 2 → i < g_n Γ) (hRm : g_R Γ = ({ frames := 4, cells := 0, slots := 0, locals := 150 } : Room)) {res : Option Nat} (hret : ∀ (pc : Nat) (L : List (Nat × Value)) (v : Option Nat) (w : va_W), decode cX10_chiefAt pc = .ok (.areturn, 1) → (v = res ∧ w = cw (g_E Γ) q r (gpl F) o0 A0 C0 h0 o1 A1 C1 h1 o2 A2 C2 h2 gs0 gA tb0 tA0 bf0 hi0) → gGO Γ 0 0 pc L [va_rf v] w) (x1 : Int32) (h : pX10_chiefAt_w0 (o0 1) C0 x1 = some res) : gGO Γ 0 0 0 [(0, .ref (q 0)), (1, .int x1)] [] (cw (g_E Γ) q r (gpl F) o0 A0 C0 h0 o1 A1 C1 h1 o2 A2 C2 h2 gs0 gA tb0 tA0 bf0 hi0) := by
    unfold pX10_chiefAt_w0 at h
    refine g_iload_n K dX10_chiefAt_0 rfl 1 rfl ?_
    obtain ⟨ht9, hf9⟩ := gi_br h; clear h
    refine g_if_lt (tgt := 26) K dX10_chiefAt_1 (by decide) (fun qh => ?_) (fun qh => ?_)
    · have h := ht9 qh; clear ht9 hf9
      refine g_null K dX10_chiefAt_26 ?_
      obtain rfl := Option.some.inj h
      exact hret _ _ none _ dX10_chiefAt_27 ⟨rfl, rfl⟩
    · have h := hf9 qh; clear ht9 hf9
      refine g_iload_n K dX10_chiefAt_4 rfl 1 rfl ?_
      refine g_aload_n K dX10_chiefAt_5 rfl 0 rfl ?_
      refine g_get (v := .int (o0 1)) (T := TX10) (ref := "ChiefGrades$World") K hin_X10 1 rfl rfl 1 (by decide) u_161 (Or.inl rfl) rfl dX10_chiefAt_6 ?_
      obtain ⟨ht9, hf9⟩ := gi_br h; clear h
      refine g_icmp_ge (tgt := 26) K dX10_chiefAt_9 (by decide) (fun qh => ?_) (fun qh => ?_)
      · have h := ht9 qh; clear ht9 hf9
        refine g_null K dX10_chiefAt_26 ?_
        obtain rfl := Option.some.inj h
        exact hret _ _ none _ dX10_chiefAt_27 ⟨rfl, rfl⟩
      · have h := hf9 qh; clear ht9 hf9
        refine g_iload_n K dX10_chiefAt_12 rfl 1 rfl ?_
        refine g_iconst (v := 4) K dX10_chiefAt_13 (by decide) ?_
        obtain ⟨ht9, hf9⟩ := gi_br h; clear h
        refine g_icmp_ge (tgt := 26) K dX10_chiefAt_14 (by decide) (fun qh => ?_) (fun qh => ?_)
        · have h := ht9 qh; clear ht9 hf9
          refine g_null K dX10_chiefAt_26 ?_
          obtain rfl := Option.some.inj h
          exact hret _ _ none _ dX10_chiefAt_27 ⟨rfl, rfl⟩
        · have h := hf9 qh; clear ht9 hf9
          refine g_aload_n K dX10_chiefAt_17 rfl 0 rfl ?_
          refine g_get (v := .ref (r 0 13)) (T := TX10) (ref := "ChiefGrades$World") K hin_X10 1 rfl rfl 13 (by decide) u_191 (Or.inl rfl) rfl dX10_chiefAt_18 ?_
          refine g_iload_n K dX10_chiefAt_21 rfl 1 rfl ?_
          obtain ⟨b_1, h⟩ := gi_none h
          refine g_aald (f := C0) K 11 rfl (ginb_in b_1) dX10_chiefAt_22 ?_
          refine g_goto (tgt := 27) K dX10_chiefAt_23 (by decide) ?_
          obtain rfl := Option.some.inj h
          exact hret _ _ (C0 (Int32.toNatClampNeg x1)) _ dX10_chiefAt_27 ⟨rfl, rfl⟩

set_option maxRecDepth 100000 in
theorem ctX10_chiefAt_w0 {E : gE} {q : Nat → Nat} {r : Nat → Nat → Nat} {F : gF} (hF : gFz E F) (o0 : Nat → Int32) (A0 : Nat → Nat → Int32) (C0 : Nat → Option Nat) (h0 : Nat) (o1 : Nat → Int32) (A1 : Nat → Nat → Int32) (C1 : Nat → Option Nat) (h1 : Nat) (o2 : Nat → Int32) (A2 : Nat → Nat → Int32) (C2 : Nat → Option Nat) (h2 : Nat) (gs0 : Int32) (gA : Nat → Nat → Int32) (tb0 : Int32) (tA0 bf0 : Nat → Int32) (hi0 : Int32) (x1 : Int32) {res : Option Nat} (h : pX10_chiefAt_w0 (o0 1) C0 x1 = some res) : gMq yX10_chiefAt (.code yX10_chiefAt cX10_chiefAt 2 (some (.object "ChiefGrades$Chief")) :: gU) ({ frames := 4, cells := 0, slots := 0, locals := 150 } : Room) 0 0 E [.ref (q 0), .int x1] (cw E q r (gpl F) o0 A0 C0 h0 o1 A1 C1 h1 o2 A2 C2 h2 gs0 gA tb0 tA0 bf0 hi0) (fun v w => v = res ∧ w = cw E q r (gpl F) o0 A0 C0 h0 o1 A1 C1 h1 o2 A2 C2 h2 gs0 gA tb0 tA0 bf0 hi0) := by
  refine g_met_q (by decide +kernel) (Nat.le_of_ble_eq_true rfl) (fun Γ K hn hE hRm _ hret => ?_)
  subst hE
  have hlt : ∀ i, i < 2 → i < g_n Γ := fun i q => by rw [hn]; exact q
  refine g_sub (L' := [(0, .ref (q 0)), (1, .int x1)]) [0, 1] rfl ?_
  exact wX10_chiefAt_w0 (C0 := C0) (h0 := h0) (C1 := C1) (h1 := h1) (C2 := C2) (h2 := h2) (gs0 := gs0) (tb0 := tb0) (tA0 := tA0) (bf0 := bf0) (hi0 := hi0) hF K hlt hRm hret x1 h

set_option maxHeartbeats 4000000 in
set_option maxRecDepth 100000 in
theorem wX11_isWithin {Γ : gT} {ws : va_W} (K : gOK Γ cX11_isWithin gU RX11) (hlt : ∀ i, i < 2 → i < g_n Γ) (hRm : g_R Γ = ({ frames := 4, cells := 0, slots := 0, locals := 150 } : Room)) {res : Int32} (hret : ∀ (pc : Nat) (L : List (Nat × Value)) (v : Int32) (w : va_W), decode cX11_isWithin pc = .ok (.ireturn, 1) → narrow .boolean (.int v) = .int v → (v = res ∧ w = ws) → gGO Γ 0 0 pc L [.int v] w) (x0 : Int32) (x1 : Int32) (h : pX11_isWithin x0 x1 = some res) : gGO Γ 0 0 0 [(0, .int x0), (1, .int x1)] [] (ws) := by
    unfold pX11_isWithin at h
    refine g_iload_n K dX11_isWithin_0 rfl 0 rfl ?_
    obtain ⟨ht9, hf9⟩ := gi_br h; clear h
    refine g_if_lt (tgt := 13) K dX11_isWithin_1 (by decide) (fun qh => ?_) (fun qh => ?_)
    · have h := ht9 qh; clear ht9 hf9
      refine g_iconst (v := 0) K dX11_isWithin_13 (by decide) ?_
      obtain rfl := Option.some.inj h
      exact hret _ _ _ _ dX11_isWithin_14 (by decide) ⟨rfl, rfl⟩
    · have h := hf9 qh; clear ht9 hf9
      refine g_iload_n K dX11_isWithin_4 rfl 0 rfl ?_
      refine g_iload_n K dX11_isWithin_5 rfl 1 rfl ?_
      obtain ⟨ht9, hf9⟩ := gi_br h; clear h
      refine g_icmp_gt (tgt := 13) K dX11_isWithin_6 (by decide) (fun qh => ?_) (fun qh => ?_)
      · have h := ht9 qh; clear ht9 hf9
        refine g_iconst (v := 0) K dX11_isWithin_13 (by decide) ?_
        obtain rfl := Option.some.inj h
        exact hret _ _ _ _ dX11_isWithin_14 (by decide) ⟨rfl, rfl⟩
      · have h := hf9 qh; clear ht9 hf9
        refine g_iconst (v := 1) K dX11_isWithin_9 (by decide) ?_
        refine g_goto (tgt := 14) K dX11_isWithin_10 (by decide) ?_
        obtain rfl := Option.some.inj h
        exact hret _ _ _ _ dX11_isWithin_14 (by decide) ⟨rfl, rfl⟩

set_option maxRecDepth 100000 in
theorem ctX11_isWithin {E : gE} {ws : va_W} (x0 : Int32) (x1 : Int32) {res : Int32} (h : pX11_isWithin x0 x1 = some res) : gMi yX11_isWithin (.code yX11_isWithin cX11_isWithin 2 (some .boolean) :: gU) ({ frames := 4, cells := 0, slots := 0, locals := 150 } : Room) 0 0 E [.int x0, .int x1] ws (fun v w => v = res ∧ w = ws) := by
  refine g_met_i (by decide +kernel) (Nat.le_of_ble_eq_true rfl) (fun Γ K hn hE hRm _ hret => ?_)
  subst hE
  have hlt : ∀ i, i < 2 → i < g_n Γ := fun i q => by rw [hn]; exact q
  refine g_sub (L' := [(0, .int x0), (1, .int x1)]) [0, 1] rfl ?_
  exact wX11_isWithin K hlt hRm hret x0 x1 h

set_option maxHeartbeats 4000000 in
set_option maxRecDepth 100000 in
theorem wX11_worker {Γ : gT} {q : Nat → Nat} {r : Nat → Nat → Nat} {F : gF} (hF : gFz (g_E Γ) F) {o0 : Nat → Int32} {A0 : Nat → Nat → Int32} {C0 : Nat → Option Nat} {h0 : Nat} {o1 : Nat → Int32} {A1 : Nat → Nat → Int32} {C1 : Nat → Option Nat} {h1 : Nat} {o2 : Nat → Int32} {A2 : Nat → Nat → Int32} {C2 : Nat → Option Nat} {h2 : Nat} {gs0 : Int32} {gA : Nat → Nat → Int32} {tb0 : Int32} {tA0 bf0 : Nat → Int32} {hi0 : Int32} (K : gOK Γ cX11_worker gU RX11) (hlt : ∀ i, i < 6 → i < g_n Γ) (hRm : g_R Γ = ({ frames := 5, cells := 0, slots := 0, locals := 171 } : Room)) {res : Int32 × Int32 × ((Nat → Int32)) × ((Nat → Int32)) × ((Nat → Int32)) × ((Nat → Int32)) × ((Nat → Int32))} (hret : ∀ (pc : Nat) (L : List (Nat × Value)) (v : Int32) (w : va_W), decode cX11_worker pc = .ok (.ireturn, 1) → narrow .int (.int v) = .int v → (v = res.1 ∧ w = cw (g_E Γ) q r (gpl F) (gu o0 0 res.2.1) (gu (gu (gu (gu (gu A0 8 res.2.2.1) 9 res.2.2.2.1) 10 res.2.2.2.2.1) 11 res.2.2.2.2.2.1) 12 res.2.2.2.2.2.2) C0 h0 o1 A1 C1 h1 o2 A2 C2 h2 gs0 gA tb0 tA0 bf0 hi0) → gGO Γ 0 0 pc L [.int v] w) (w0o0 : Int32) (w0a8 : (Nat → Int32)) (w0a9 : (Nat → Int32)) (w0a10 : (Nat → Int32)) (w0a11 : (Nat → Int32)) (w0a12 : (Nat → Int32)) (x1 : Int32) (x2 : Int32) (x3 : Int32) (x4 : Int32) (h : pX11_worker (o0 1) C0 w0o0 w0a8 w0a9 w0a10 w0a11 w0a12 x1 x2 x3 x4 = some res) : gGO Γ 0 0 0 [(0, .ref (q 5)), (1, .int x1), (2, .int x2), (3, .int x3), (4, .int x4)] [] (cw (g_E Γ) q r (gpl F) (gu o0 0 w0o0) (gu (gu (gu (gu (gu A0 8 w0a8) 9 w0a9) 10 w0a10) 11 w0a11) 12 w0a12) C0 h0 o1 A1 C1 h1 o2 A2 C2 h2 gs0 gA tb0 tA0 bf0 hi0) := by
    unfold pX11_worker at h
    refine g_aload_n K dX11_worker_0 rfl 0 rfl ?_
    refine g_get (v := .ref (q 0)) (T := TX11) (ref := "ChiefGrades") K hin_X11 0 rfl rfl 0 (by decide) u_324 (Or.inl rfl) rfl dX11_worker_1 ?_
    refine g_iload_n K dX11_worker_4 rfl 1 rfl ?_
    obtain ⟨z_1, hz_1, h⟩ := gi_bd h
    refine g_callVq (As := [.int x1]) (bytes := cX10_chiefAt) (maxL := 2) (ret := (some (.object "ChiefGrades$Chief"))) K (ctX10_chiefAt_w0 hF (gu o0 0 w0o0) (gu (gu (gu (gu (gu A0 8 w0a8) 9 w0a9) 10 w0a10) 11 w0a11) 12 w0a12) C0 h0 o1 A1 C1 h1 o2 A2 C2 h2 gs0 gA tb0 tA0 bf0 hi0 x1 (res := z_1) hz_1) gc_V_RX11_101_X10_chiefAt rfl qv_X10_chiefAt 1 rfl rfl rfl hRm rfl rfl rfl (by decide) (Nat.le_of_ble_eq_true rfl) (by decide) dX11_worker_5 (fun v w hw => ?_)
    obtain ⟨hv9, rfl⟩ := hw; have hv9 := hv9.symm; subst hv9
    rcases gi_mt h with ⟨ez, h⟩ | ⟨b_z1, ez, h⟩
    · rw [ez]
      refine g_ifnonnullN K dX11_worker_8 ?_
      refine g_iconst (v := (-1)) K dX11_worker_11 (by decide) ?_
      obtain rfl := Option.some.inj h
      exact hret _ _ _ _ dX11_worker_12 rfl ⟨rfl, rfl⟩
    · rw [ez]
      refine g_ifnonnull (tgt := 13) K dX11_worker_8 (by decide) ?_
      refine g_iload_n K dX11_worker_13 rfl 2 rfl ?_
      refine g_bipush (v := 99) K dX11_worker_14 (by decide) ?_
      obtain ⟨z_2, hz_2, h⟩ := gi_bd h
      refine g_callSi (As := [.int x2, .int 99]) (bytes := cX11_isWithin) (maxL := 2) (ret := (some .boolean)) K (ctX11_isWithin (ws := cw (g_E Γ) q r (gpl F) (gu o0 0 w0o0) (gu (gu (gu (gu (gu A0 8 w0a8) 9 w0a9) 10 w0a10) 11 w0a11) 12 w0a12) C0 h0 o1 A1 C1 h1 o2 A2 C2 h2 gs0 gA tb0 tA0 bf0 hi0) x2 99 (res := z_2) hz_2) gc_S_RX11_84_X11_isWithin rfl qs_X11_isWithin hRm rfl rfl rfl (by decide) (Nat.le_of_ble_eq_true rfl) (by decide) dX11_worker_16 (fun v w hw => ?_)
      obtain ⟨hv9, rfl⟩ := hw; have hv9 := hv9.symm; subst hv9
      obtain ⟨ht9, hf9⟩ := gi_br h; clear h
      refine g_if_eq (tgt := 31) K dX11_worker_19 (by decide) (fun qh => ?_) (fun qh => ?_)
      · have h := ht9 qh; clear ht9 hf9
        refine g_bipush (v := (-2)) K dX11_worker_31 (by decide) ?_
        obtain rfl := Option.some.inj h
        exact hret _ _ _ _ dX11_worker_33 rfl ⟨rfl, rfl⟩
      · have h := hf9 qh; clear ht9 hf9
        refine g_iload_n K dX11_worker_22 rfl 3 rfl ?_
        refine g_bipush (v := 99) K dX11_worker_23 (by decide) ?_
        obtain ⟨z_3, hz_3, h⟩ := gi_bd h
        refine g_callSi (As := [.int x3, .int 99]) (bytes := cX11_isWithin) (maxL := 2) (ret := (some .boolean)) K (ctX11_isWithin (ws := cw (g_E Γ) q r (gpl F) (gu o0 0 w0o0) (gu (gu (gu (gu (gu A0 8 w0a8) 9 w0a9) 10 w0a10) 11 w0a11) 12 w0a12) C0 h0 o1 A1 C1 h1 o2 A2 C2 h2 gs0 gA tb0 tA0 bf0 hi0) x3 99 (res := z_3) hz_3) gc_S_RX11_84_X11_isWithin rfl qs_X11_isWithin hRm rfl rfl rfl (by decide) (Nat.le_of_ble_eq_true rfl) (by decide) dX11_worker_25 (fun v w hw => ?_)
        obtain ⟨hv9, rfl⟩ := hw; have hv9 := hv9.symm; subst hv9
        obtain ⟨ht9, hf9⟩ := gi_br h; clear h
        refine g_if_ne (tgt := 34) K dX11_worker_28 (by decide) (fun qh => ?_) (fun qh => ?_)
        · have h := hf9 qh; clear ht9 hf9
          refine g_iload K dX11_worker_34 4 rfl ?_
          refine g_bipush (v := 9) K dX11_worker_36 (by decide) ?_
          obtain ⟨z_4, hz_4, h⟩ := gi_bd h
          refine g_callSi (As := [.int x4, .int 9]) (bytes := cX11_isWithin) (maxL := 2) (ret := (some .boolean)) K (ctX11_isWithin (ws := cw (g_E Γ) q r (gpl F) (gu o0 0 w0o0) (gu (gu (gu (gu (gu A0 8 w0a8) 9 w0a9) 10 w0a10) 11 w0a11) 12 w0a12) C0 h0 o1 A1 C1 h1 o2 A2 C2 h2 gs0 gA tb0 tA0 bf0 hi0) x4 9 (res := z_4) hz_4) gc_S_RX11_84_X11_isWithin rfl qs_X11_isWithin hRm rfl rfl rfl (by decide) (Nat.le_of_ble_eq_true rfl) (by decide) dX11_worker_38 (fun v w hw => ?_)
          obtain ⟨hv9, rfl⟩ := hw; have hv9 := hv9.symm; subst hv9
          obtain ⟨ht9, hf9⟩ := gi_br h; clear h
          refine g_if_ne (tgt := 47) K dX11_worker_41 (by decide) (fun qh => ?_) (fun qh => ?_)
          · have h := hf9 qh; clear ht9 hf9
            refine g_aload_n K dX11_worker_47 rfl 0 rfl ?_
            refine g_get (v := .ref (q 0)) (T := TX11) (ref := "ChiefGrades") K hin_X11 0 rfl rfl 0 (by decide) u_324 (Or.inl rfl) rfl dX11_worker_48 ?_
            refine g_get (v := .int w0o0) (T := TX10) (ref := "ChiefGrades$World") K hin_X10 1 rfl rfl 0 (by decide) u_160 (Or.inl rfl) rfl dX11_worker_51 ?_
            refine g_bipush (v := 10) K dX11_worker_54 (by decide) ?_
            obtain ⟨ht9, hf9⟩ := gi_br h; clear h
            refine g_icmp_lt (tgt := 62) K dX11_worker_56 (by decide) (fun qh => ?_) (fun qh => ?_)
            · have h := ht9 qh; clear ht9 hf9
              refine g_aload_n K dX11_worker_62 rfl 0 rfl ?_
              refine g_get (v := .ref (q 0)) (T := TX11) (ref := "ChiefGrades") K hin_X11 0 rfl rfl 0 (by decide) u_324 (Or.inl rfl) rfl dX11_worker_63 ?_
              refine g_get (v := .int w0o0) (T := TX10) (ref := "ChiefGrades$World") K hin_X10 1 rfl rfl 0 (by decide) u_160 (Or.inl rfl) rfl dX11_worker_66 ?_
              refine g_istore (L' := [(5, .int w0o0), (0, .ref (q 5)), (1, .int x1), (2, .int x2), (3, .int x3), (4, .int x4)]) K dX11_worker_69 (hlt _ (by decide)) rfl ?_
              refine g_aload_n K dX11_worker_71 rfl 1 rfl ?_
              refine g_get (v := .ref (q 0)) (T := TX11) (ref := "ChiefGrades") K hin_X11 0 rfl rfl 0 (by decide) u_324 (Or.inl rfl) rfl dX11_worker_72 ?_
              refine g_get (v := .ref (r 0 8)) (T := TX10) (ref := "ChiefGrades$World") K hin_X10 1 rfl rfl 8 (by decide) u_179 (Or.inl rfl) rfl dX11_worker_75 ?_
              refine g_iload K dX11_worker_78 0 rfl ?_
              refine g_iload_n K dX11_worker_80 rfl 3 rfl ?_
              obtain ⟨b_5, h⟩ := gi_none h
              obtain ⟨f_6, ef_6, h⟩ := gi_nm h
              refine g_iast (f := w0a8) (ws' := cw (g_E Γ) q r (gpl F) (gu o0 0 w0o0) (gu (gu (gu (gu (gu A0 8 f_6) 9 w0a9) 10 w0a10) 11 w0a11) 12 w0a12) C0 h0 o1 A1 C1 h1 o2 A2 C2 h2 gs0 gA tb0 tA0 bf0 hi0) K 6 rfl (ginb_in b_5) dX11_worker_81 (by rw [ef_6]; rfl) ?_
              refine g_aload_n K dX11_worker_82 rfl 1 rfl ?_
              refine g_get (v := .ref (q 0)) (T := TX11) (ref := "ChiefGrades") K hin_X11 0 rfl rfl 0 (by decide) u_324 (Or.inl rfl) rfl dX11_worker_83 ?_
              refine g_get (v := .ref (r 0 9)) (T := TX10) (ref := "ChiefGrades$World") K hin_X10 1 rfl rfl 9 (by decide) u_182 (Or.inl rfl) rfl dX11_worker_86 ?_
              refine g_iload K dX11_worker_89 0 rfl ?_
              refine g_iload_n K dX11_worker_91 rfl 4 rfl ?_
              obtain ⟨b_7, h⟩ := gi_none h
              obtain ⟨f_8, ef_8, h⟩ := gi_nm h
              refine g_iast (f := w0a9) (ws' := cw (g_E Γ) q r (gpl F) (gu o0 0 w0o0) (gu (gu (gu (gu (gu A0 8 f_6) 9 f_8) 10 w0a10) 11 w0a11) 12 w0a12) C0 h0 o1 A1 C1 h1 o2 A2 C2 h2 gs0 gA tb0 tA0 bf0 hi0) K 7 rfl (ginb_in b_7) dX11_worker_92 (by rw [ef_8]; rfl) ?_
              refine g_aload_n K dX11_worker_93 rfl 1 rfl ?_
              refine g_get (v := .ref (q 0)) (T := TX11) (ref := "ChiefGrades") K hin_X11 0 rfl rfl 0 (by decide) u_324 (Or.inl rfl) rfl dX11_worker_94 ?_
              refine g_get (v := .ref (r 0 10)) (T := TX10) (ref := "ChiefGrades$World") K hin_X10 1 rfl rfl 10 (by decide) u_185 (Or.inl rfl) rfl dX11_worker_97 ?_
              refine g_iload K dX11_worker_100 0 rfl ?_
              refine g_iload_n K dX11_worker_102 rfl 2 rfl ?_
              obtain ⟨b_9, h⟩ := gi_none h
              obtain ⟨f_10, ef_10, h⟩ := gi_nm h
              refine g_iast (f := w0a10) (ws' := cw (g_E Γ) q r (gpl F) (gu o0 0 w0o0) (gu (gu (gu (gu (gu A0 8 f_6) 9 f_8) 10 f_10) 11 w0a11) 12 w0a12) C0 h0 o1 A1 C1 h1 o2 A2 C2 h2 gs0 gA tb0 tA0 bf0 hi0) K 8 rfl (ginb_in b_9) dX11_worker_103 (by rw [ef_10]; rfl) ?_
              refine g_aload_n K dX11_worker_104 rfl 1 rfl ?_
              refine g_get (v := .ref (q 0)) (T := TX11) (ref := "ChiefGrades") K hin_X11 0 rfl rfl 0 (by decide) u_324 (Or.inl rfl) rfl dX11_worker_105 ?_
              refine g_get (v := .ref (r 0 11)) (T := TX10) (ref := "ChiefGrades$World") K hin_X10 1 rfl rfl 11 (by decide) u_188 (Or.inl rfl) rfl dX11_worker_108 ?_
              refine g_iload K dX11_worker_111 0 rfl ?_
              refine g_iload K dX11_worker_113 5 rfl ?_
              obtain ⟨b_11, h⟩ := gi_none h
              obtain ⟨f_12, ef_12, h⟩ := gi_nm h
              refine g_iast (f := w0a11) (ws' := cw (g_E Γ) q r (gpl F) (gu o0 0 w0o0) (gu (gu (gu (gu (gu A0 8 f_6) 9 f_8) 10 f_10) 11 f_12) 12 w0a12) C0 h0 o1 A1 C1 h1 o2 A2 C2 h2 gs0 gA tb0 tA0 bf0 hi0) K 9 rfl (ginb_in b_11) dX11_worker_115 (by rw [ef_12]; rfl) ?_
              refine g_aload_n K dX11_worker_116 rfl 1 rfl ?_
              refine g_get (v := .ref (q 0)) (T := TX11) (ref := "ChiefGrades") K hin_X11 0 rfl rfl 0 (by decide) u_324 (Or.inl rfl) rfl dX11_worker_117 ?_
              refine g_get (v := .ref (r 0 12)) (T := TX10) (ref := "ChiefGrades$World") K hin_X10 1 rfl rfl 12 (by decide) u_190 (Or.inl rfl) rfl dX11_worker_120 ?_
              refine g_iload K dX11_worker_123 0 rfl ?_
              refine g_iconst (v := 0) K dX11_worker_125 (by decide) ?_
              obtain ⟨b_13, h⟩ := gi_none h
              obtain ⟨f_14, ef_14, h⟩ := gi_nm h
              refine g_iast (f := w0a12) (ws' := cw (g_E Γ) q r (gpl F) (gu o0 0 w0o0) (gu (gu (gu (gu (gu A0 8 f_6) 9 f_8) 10 f_10) 11 f_12) 12 f_14) C0 h0 o1 A1 C1 h1 o2 A2 C2 h2 gs0 gA tb0 tA0 bf0 hi0) K 10 rfl (ginb_in b_13) dX11_worker_126 (by rw [ef_14]; rfl) ?_
              refine g_aload_n K dX11_worker_127 rfl 1 rfl ?_
              refine g_get (v := .ref (q 0)) (T := TX11) (ref := "ChiefGrades") K hin_X11 0 rfl rfl 0 (by decide) u_324 (Or.inl rfl) rfl dX11_worker_128 ?_
              refine g_dup K dX11_worker_131 rfl ?_
              refine g_get (v := .int w0o0) (T := TX10) (ref := "ChiefGrades$World") K hin_X10 1 rfl rfl 0 (by decide) u_160 (Or.inl rfl) rfl dX11_worker_132 ?_
              refine g_iconst (v := 1) K dX11_worker_135 (by decide) ?_
              refine g_iadd K dX11_worker_136 ?_
              refine g_put (v := .int (w0o0 + 1)) (ws' := cw (g_E Γ) q r (gpl F) (gu o0 0 (w0o0 + 1)) (gu (gu (gu (gu (gu A0 8 f_6) 9 f_8) 10 f_10) 11 f_12) 12 f_14) C0 h0 o1 A1 C1 h1 o2 A2 C2 h2 gs0 gA tb0 tA0 bf0 hi0) (T := TX10) (ref := "ChiefGrades$World") (ty := .int) K hin_X10 tyX10_ok nmX10 1 rfl rfl 0 (by decide) u_160 rfl rfl (by decide +kernel) rfl rfl (Nat.le_of_ble_eq_true rfl) dX11_worker_137 rfl ?_
              refine g_iload K dX11_worker_140 0 rfl ?_
              obtain rfl := Option.some.inj h
              exact hret _ _ _ _ dX11_worker_142 rfl ⟨rfl, rfl⟩
            · have h := hf9 qh; clear ht9 hf9
              refine g_bipush (v := (-4)) K dX11_worker_59 (by decide) ?_
              obtain rfl := Option.some.inj h
              exact hret _ _ _ _ dX11_worker_61 rfl ⟨rfl, rfl⟩
          · have h := ht9 qh; clear ht9 hf9
            refine g_bipush (v := (-2)) K dX11_worker_44 (by decide) ?_
            obtain rfl := Option.some.inj h
            exact hret _ _ _ _ dX11_worker_46 rfl ⟨rfl, rfl⟩
        · have h := ht9 qh; clear ht9 hf9
          refine g_bipush (v := (-2)) K dX11_worker_31 (by decide) ?_
          obtain rfl := Option.some.inj h
          exact hret _ _ _ _ dX11_worker_33 rfl ⟨rfl, rfl⟩

set_option maxRecDepth 100000 in
theorem ctX11_worker {E : gE} {q : Nat → Nat} {r : Nat → Nat → Nat} {F : gF} (hF : gFz E F) (o0 : Nat → Int32) (A0 : Nat → Nat → Int32) (C0 : Nat → Option Nat) (h0 : Nat) (o1 : Nat → Int32) (A1 : Nat → Nat → Int32) (C1 : Nat → Option Nat) (h1 : Nat) (o2 : Nat → Int32) (A2 : Nat → Nat → Int32) (C2 : Nat → Option Nat) (h2 : Nat) (gs0 : Int32) (gA : Nat → Nat → Int32) (tb0 : Int32) (tA0 bf0 : Nat → Int32) (hi0 : Int32) (x1 : Int32) (x2 : Int32) (x3 : Int32) (x4 : Int32) {res : Int32 × Int32 × ((Nat → Int32)) × ((Nat → Int32)) × ((Nat → Int32)) × ((Nat → Int32)) × ((Nat → Int32))} (h : pX11_worker (o0 1) C0 (o0 0) (A0 8) (A0 9) (A0 10) (A0 11) (A0 12) x1 x2 x3 x4 = some res) : gMi yX11_worker (.code yX11_worker cX11_worker 6 (some .int) :: gU) ({ frames := 5, cells := 0, slots := 0, locals := 171 } : Room) 0 0 E [.ref (q 5), .int x1, .int x2, .int x3, .int x4] (cw E q r (gpl F) o0 A0 C0 h0 o1 A1 C1 h1 o2 A2 C2 h2 gs0 gA tb0 tA0 bf0 hi0) (fun v w => v = res.1 ∧ w = cw E q r (gpl F) (gu o0 0 res.2.1) (gu (gu (gu (gu (gu A0 8 res.2.2.1) 9 res.2.2.2.1) 10 res.2.2.2.2.1) 11 res.2.2.2.2.2.1) 12 res.2.2.2.2.2.2) C0 h0 o1 A1 C1 h1 o2 A2 C2 h2 gs0 gA tb0 tA0 bf0 hi0) := by
  refine g_met_i (by decide +kernel) (Nat.le_of_ble_eq_true rfl) (fun Γ K hn hE hRm _ hret => ?_)
  subst hE
  have hlt : ∀ i, i < 6 → i < g_n Γ := fun i q => by rw [hn]; exact q
  refine g_ws (ws' := cw (g_E Γ) q r (gpl F) (gu o0 0 (o0 0)) (gu (gu (gu (gu (gu A0 8 (A0 8)) 9 (A0 9)) 10 (A0 10)) 11 (A0 11)) 12 (A0 12)) C0 h0 o1 A1 C1 h1 o2 A2 C2 h2 gs0 gA tb0 tA0 bf0 hi0) rfl ?_
  refine g_sub (L' := [(0, .ref (q 5)), (1, .int x1), (2, .int x2), (3, .int x3), (4, .int x4)]) [0, 1, 2, 3, 4] rfl ?_
  exact wX11_worker (C0 := C0) (h0 := h0) (C1 := C1) (h1 := h1) (C2 := C2) (h2 := h2) (gs0 := gs0) (tb0 := tb0) (tA0 := tA0) (bf0 := bf0) (hi0 := hi0) hF K hlt hRm hret (o0 0) (A0 8) (A0 9) (A0 10) (A0 11) (A0 12) x1 x2 x3 x4 h

set_option maxHeartbeats 4000000 in
set_option maxRecDepth 100000 in
theorem wX10_hasWorker_w0 {Γ : gT} {q : Nat → Nat} {r : Nat → Nat → Nat} {F : gF} (hF : gFz (g_E Γ) F) {o0 : Nat → Int32} {A0 : Nat → Nat → Int32} {C0 : Nat → Option Nat} {h0 : Nat} {o1 : Nat → Int32} {A1 : Nat → Nat → Int32} {C1 : Nat → Option Nat} {h1 : Nat} {o2 : Nat → Int32} {A2 : Nat → Nat → Int32} {C2 : Nat → Option Nat} {h2 : Nat} {gs0 : Int32} {gA : Nat → Nat → Int32} {tb0 : Int32} {tA0 bf0 : Nat → Int32} {hi0 : Int32} (K : gOK Γ cX10_hasWorker gU RX10) (hlt : ∀ i, i < 2 → i < g_n Γ) (hRm : g_R Γ = ({ frames := 4, cells := 0, slots := 0, locals := 150 } : Room)) {res : Int32} (hret : ∀ (pc : Nat) (L : List (Nat × Value)) (v : Int32) (w : va_W), decode cX10_hasWorker pc = .ok (.ireturn, 1) → narrow .boolean (.int v) = .int v → (v = res ∧ w = cw (g_E Γ) q r (gpl F) o0 A0 C0 h0 o1 A1 C1 h1 o2 A2 C2 h2 gs0 gA tb0 tA0 bf0 hi0) → gGO Γ 0 0 pc L [.int v] w) (x1 : Int32) (h : pX10_hasWorker_w0 (o0 0) x1 = some res) : gGO Γ 0 0 0 [(0, .ref (q 0)), (1, .int x1)] [] (cw (g_E Γ) q r (gpl F) o0 A0 C0 h0 o1 A1 C1 h1 o2 A2 C2 h2 gs0 gA tb0 tA0 bf0 hi0) := by
    unfold pX10_hasWorker_w0 at h
    refine g_iload_n K dX10_hasWorker_0 rfl 1 rfl ?_
    obtain ⟨ht9, hf9⟩ := gi_br h; clear h
    refine g_if_lt (tgt := 22) K dX10_hasWorker_1 (by decide) (fun qh => ?_) (fun qh => ?_)
    · have h := ht9 qh; clear ht9 hf9
      refine g_iconst (v := 0) K dX10_hasWorker_22 (by decide) ?_
      obtain rfl := Option.some.inj h
      exact hret _ _ _ _ dX10_hasWorker_23 (by decide) ⟨rfl, rfl⟩
    · have h := hf9 qh; clear ht9 hf9
      refine g_iload_n K dX10_hasWorker_4 rfl 1 rfl ?_
      refine g_aload_n K dX10_hasWorker_5 rfl 0 rfl ?_
      refine g_get (v := .int (o0 0)) (T := TX10) (ref := "ChiefGrades$World") K hin_X10 1 rfl rfl 0 (by decide) u_158 (Or.inl rfl) rfl dX10_hasWorker_6 ?_
      obtain ⟨ht9, hf9⟩ := gi_br h; clear h
      refine g_icmp_ge (tgt := 22) K dX10_hasWorker_9 (by decide) (fun qh => ?_) (fun qh => ?_)
      · have h := ht9 qh; clear ht9 hf9
        refine g_iconst (v := 0) K dX10_hasWorker_22 (by decide) ?_
        obtain rfl := Option.some.inj h
        exact hret _ _ _ _ dX10_hasWorker_23 (by decide) ⟨rfl, rfl⟩
      · have h := hf9 qh; clear ht9 hf9
        refine g_iload_n K dX10_hasWorker_12 rfl 1 rfl ?_
        refine g_bipush (v := 10) K dX10_hasWorker_13 (by decide) ?_
        obtain ⟨ht9, hf9⟩ := gi_br h; clear h
        refine g_icmp_ge (tgt := 22) K dX10_hasWorker_15 (by decide) (fun qh => ?_) (fun qh => ?_)
        · have h := ht9 qh; clear ht9 hf9
          refine g_iconst (v := 0) K dX10_hasWorker_22 (by decide) ?_
          obtain rfl := Option.some.inj h
          exact hret _ _ _ _ dX10_hasWorker_23 (by decide) ⟨rfl, rfl⟩
        · have h := hf9 qh; clear ht9 hf9
          refine g_iconst (v := 1) K dX10_hasWorker_18 (by decide) ?_
          refine g_goto (tgt := 23) K dX10_hasWorker_19 (by decide) ?_
          obtain rfl := Option.some.inj h
          exact hret _ _ _ _ dX10_hasWorker_23 (by decide) ⟨rfl, rfl⟩

set_option maxRecDepth 100000 in
theorem ctX10_hasWorker_w0 {E : gE} {q : Nat → Nat} {r : Nat → Nat → Nat} {F : gF} (hF : gFz E F) (o0 : Nat → Int32) (A0 : Nat → Nat → Int32) (C0 : Nat → Option Nat) (h0 : Nat) (o1 : Nat → Int32) (A1 : Nat → Nat → Int32) (C1 : Nat → Option Nat) (h1 : Nat) (o2 : Nat → Int32) (A2 : Nat → Nat → Int32) (C2 : Nat → Option Nat) (h2 : Nat) (gs0 : Int32) (gA : Nat → Nat → Int32) (tb0 : Int32) (tA0 bf0 : Nat → Int32) (hi0 : Int32) (x1 : Int32) {res : Int32} (h : pX10_hasWorker_w0 (o0 0) x1 = some res) : gMi yX10_hasWorker (.code yX10_hasWorker cX10_hasWorker 2 (some .boolean) :: gU) ({ frames := 4, cells := 0, slots := 0, locals := 150 } : Room) 0 0 E [.ref (q 0), .int x1] (cw E q r (gpl F) o0 A0 C0 h0 o1 A1 C1 h1 o2 A2 C2 h2 gs0 gA tb0 tA0 bf0 hi0) (fun v w => v = res ∧ w = cw E q r (gpl F) o0 A0 C0 h0 o1 A1 C1 h1 o2 A2 C2 h2 gs0 gA tb0 tA0 bf0 hi0) := by
  refine g_met_i (by decide +kernel) (Nat.le_of_ble_eq_true rfl) (fun Γ K hn hE hRm _ hret => ?_)
  subst hE
  have hlt : ∀ i, i < 2 → i < g_n Γ := fun i q => by rw [hn]; exact q
  refine g_sub (L' := [(0, .ref (q 0)), (1, .int x1)]) [0, 1] rfl ?_
  exact wX10_hasWorker_w0 (C0 := C0) (h0 := h0) (C1 := C1) (h1 := h1) (C2 := C2) (h2 := h2) (gs0 := gs0) (tb0 := tb0) (tA0 := tA0) (bf0 := bf0) (hi0 := hi0) hF K hlt hRm hret x1 h

set_option maxHeartbeats 4000000 in
set_option maxRecDepth 100000 in
theorem wX1_gather_7 {Γ : gT} {q : Nat → Nat} {r : Nat → Nat → Nat} {F : gF} (hF : gFz (g_E Γ) F) {o0 : Nat → Int32} {A0 : Nat → Nat → Int32} {C0 : Nat → Option Nat} {h0 : Nat} {o1 : Nat → Int32} {A1 : Nat → Nat → Int32} {C1 : Nat → Option Nat} {h1 : Nat} {o2 : Nat → Int32} {A2 : Nat → Nat → Int32} {C2 : Nat → Option Nat} {h2 : Nat} {gs0 : Int32} {gA : Nat → Nat → Int32} {tb0 : Int32} {tA0 bf0 : Nat → Int32} {hi0 : Int32} (K : gOK Γ cX1_gather gU RX1) (hlt : ∀ i, i < 3 → i < g_n Γ) (hRm : g_R Γ = ({ frames := 4, cells := 0, slots := 0, locals := 150 } : Room)) {res : Int32 × ((Nat → Int32))} (hret : ∀ (pc : Nat) (L : List (Nat × Value)) (w : va_W), decode cX1_gather pc = .ok (.return_, 1) → (w = cw (g_E Γ) q r (gpl F) o0 A0 C0 h0 o1 A1 C1 h1 o2 A2 C2 h2 res.1 (gu gA 2 res.2) tb0 tA0 bf0 hi0) → gGO Γ 0 0 pc L [] w) : ∀ (n : Nat) (gs : Int32) (ga2 : (Nat → Int32)) (x1 : Int32) (x2 : Int32), pX1_gather_7 n gs ga2 x1 x2 = some res → gGO Γ 0 0 7 [(0, .ref (q 3)), (1, .int x1), (2, .int x2)] [] (cw (g_E Γ) q r (gpl F) o0 A0 C0 h0 o1 A1 C1 h1 o2 A2 C2 h2 gs (gu gA 2 ga2) tb0 tA0 bf0 hi0) := by
  intro n
  induction n with
  | zero => intro _ _ _ _ h; cases h
  | succ n ih =>
    intro gs ga2 x1 x2 h
    simp only [pX1_gather_7] at h
    refine g_iload_n K dX1_gather_7 rfl 2 rfl ?_
    refine g_bipush (v := 10) K dX1_gather_8 (by decide) ?_
    obtain ⟨ht9, hf9⟩ := gi_br h; clear h
    refine g_icmp_ge (tgt := 44) K dX1_gather_10 (by decide) (fun qh => ?_) (fun qh => ?_)
    · have h := ht9 qh; clear ht9 hf9
      obtain rfl := Option.some.inj h
      exact hret _ _ _ dX1_gather_44 rfl
    · have h := hf9 qh; clear ht9 hf9
      refine g_iload_n K dX1_gather_13 rfl 1 rfl ?_
      refine g_iconst (v := 1) K dX1_gather_14 (by decide) ?_
      refine g_iload_n K dX1_gather_15 rfl 2 rfl ?_
      refine g_ishl K dX1_gather_16 ?_
      refine g_iand K dX1_gather_17 ?_
      obtain ⟨ht9, hf9⟩ := gi_br h; clear h
      refine g_if_eq (tgt := 38) K dX1_gather_18 (by decide) (fun qh => ?_) (fun qh => ?_)
      · have h := ht9 qh; clear ht9 hf9
        refine g_iinc (v := (x2 + 1)) (L' := [(2, .int (x2 + 1)), (0, .ref (q 3)), (1, .int x1)]) K dX1_gather_38 2 rfl rfl (hlt _ (by decide)) rfl ?_
        refine g_goto (tgt := 7) K dX1_gather_41 (by decide) ?_
        refine g_sub (L' := [(0, .ref (q 3)), (1, .int x1), (2, .int (x2 + 1))]) [1, 2, 0] rfl ?_
        exact ih gs ga2 x1 (x2 + 1) h
      · have h := hf9 qh; clear ht9 hf9
        refine g_aload_n K dX1_gather_21 rfl 0 rfl ?_
        refine g_get (v := .ref (r 3 2)) (T := TX1) (ref := "ChiefGrades$Grader") K hin_X1 4 rfl rfl 2 (by decide) u_289 (Or.inl rfl) rfl dX1_gather_22 ?_
        refine g_aload_n K dX1_gather_25 rfl 0 rfl ?_
        refine g_dup K dX1_gather_26 rfl ?_
        refine g_get (v := .int gs) (T := TX1) (ref := "ChiefGrades$Grader") K hin_X1 4 rfl rfl 4 (by decide) u_291 (Or.inl rfl) rfl dX1_gather_27 ?_
        refine g_dup_x1 K dX1_gather_30 rfl rfl ?_
        refine g_iconst (v := 1) K dX1_gather_31 (by decide) ?_
        refine g_iadd K dX1_gather_32 ?_
        refine g_put (v := .int (gs + 1)) (ws' := cw (g_E Γ) q r (gpl F) o0 A0 C0 h0 o1 A1 C1 h1 o2 A2 C2 h2 (gs + 1) (gu gA 2 ga2) tb0 tA0 bf0 hi0) (T := TX1) (ref := "ChiefGrades$Grader") (ty := .int) K hin_X1 tyX1_ok nmX1 4 rfl rfl 4 (by decide) u_291 rfl rfl (by decide +kernel) rfl rfl (Nat.le_of_ble_eq_true rfl) dX1_gather_33 rfl ?_
        refine g_iload_n K dX1_gather_36 rfl 2 rfl ?_
        obtain ⟨b_1, h⟩ := gi_none h
        obtain ⟨f_2, ef_2, h⟩ := gi_nm h
        refine g_iast (f := ga2) (ws' := cw (g_E Γ) q r (gpl F) o0 A0 C0 h0 o1 A1 C1 h1 o2 A2 C2 h2 (gs + 1) (gu gA 2 f_2) tb0 tA0 bf0 hi0) K 38 rfl (ginb_in b_1) dX1_gather_37 (by rw [ef_2]; rfl) ?_
        refine g_iinc (v := (x2 + 1)) (L' := [(2, .int (x2 + 1)), (0, .ref (q 3)), (1, .int x1)]) K dX1_gather_38 2 rfl rfl (hlt _ (by decide)) rfl ?_
        refine g_goto (tgt := 7) K dX1_gather_41 (by decide) ?_
        refine g_sub (L' := [(0, .ref (q 3)), (1, .int x1), (2, .int (x2 + 1))]) [1, 2, 0] rfl ?_
        exact ih (gs + 1) f_2 x1 (x2 + 1) h

set_option maxHeartbeats 4000000 in
set_option maxRecDepth 100000 in
theorem wX1_gather {Γ : gT} {q : Nat → Nat} {r : Nat → Nat → Nat} {F : gF} (hF : gFz (g_E Γ) F) {o0 : Nat → Int32} {A0 : Nat → Nat → Int32} {C0 : Nat → Option Nat} {h0 : Nat} {o1 : Nat → Int32} {A1 : Nat → Nat → Int32} {C1 : Nat → Option Nat} {h1 : Nat} {o2 : Nat → Int32} {A2 : Nat → Nat → Int32} {C2 : Nat → Option Nat} {h2 : Nat} {gs0 : Int32} {gA : Nat → Nat → Int32} {tb0 : Int32} {tA0 bf0 : Nat → Int32} {hi0 : Int32} (K : gOK Γ cX1_gather gU RX1) (hlt : ∀ i, i < 3 → i < g_n Γ) (hRm : g_R Γ = ({ frames := 4, cells := 0, slots := 0, locals := 150 } : Room)) {res : Int32 × ((Nat → Int32))} (hret : ∀ (pc : Nat) (L : List (Nat × Value)) (w : va_W), decode cX1_gather pc = .ok (.return_, 1) → (w = cw (g_E Γ) q r (gpl F) o0 A0 C0 h0 o1 A1 C1 h1 o2 A2 C2 h2 res.1 (gu gA 2 res.2) tb0 tA0 bf0 hi0) → gGO Γ 0 0 pc L [] w) (gs : Int32) (ga2 : (Nat → Int32)) (x1 : Int32) (h : pX1_gather gs ga2 x1 = some res) : gGO Γ 0 0 0 [(0, .ref (q 3)), (1, .int x1)] [] (cw (g_E Γ) q r (gpl F) o0 A0 C0 h0 o1 A1 C1 h1 o2 A2 C2 h2 gs (gu gA 2 ga2) tb0 tA0 bf0 hi0) := by
    unfold pX1_gather at h
    refine g_aload_n K dX1_gather_0 rfl 0 rfl ?_
    refine g_iconst (v := 0) K dX1_gather_1 (by decide) ?_
    refine g_put (v := .int 0) (ws' := cw (g_E Γ) q r (gpl F) o0 A0 C0 h0 o1 A1 C1 h1 o2 A2 C2 h2 0 (gu gA 2 ga2) tb0 tA0 bf0 hi0) (T := TX1) (ref := "ChiefGrades$Grader") (ty := .int) K hin_X1 tyX1_ok nmX1 4 rfl rfl 4 (by decide) u_291 rfl rfl (by decide +kernel) rfl rfl (Nat.le_of_ble_eq_true rfl) dX1_gather_2 rfl ?_
    refine g_iconst (v := 0) K dX1_gather_5 (by decide) ?_
    refine g_istore_n (L' := [(2, .int 0), (0, .ref (q 3)), (1, .int x1)]) K dX1_gather_6 rfl (hlt _ (by decide)) rfl ?_
    refine g_sub (L' := [(0, .ref (q 3)), (1, .int x1), (2, .int 0)]) [1, 2, 0] rfl ?_
    exact wX1_gather_7 (C0 := C0) (h0 := h0) (C1 := C1) (h1 := h1) (C2 := C2) (h2 := h2) (gs0 := gs0) (tb0 := tb0) (tA0 := tA0) (bf0 := bf0) (hi0 := hi0) hF K hlt hRm hret 1000 0 ga2 x1 0 h

set_option maxRecDepth 100000 in
theorem ctX1_gather {E : gE} {q : Nat → Nat} {r : Nat → Nat → Nat} {F : gF} (hF : gFz E F) (o0 : Nat → Int32) (A0 : Nat → Nat → Int32) (C0 : Nat → Option Nat) (h0 : Nat) (o1 : Nat → Int32) (A1 : Nat → Nat → Int32) (C1 : Nat → Option Nat) (h1 : Nat) (o2 : Nat → Int32) (A2 : Nat → Nat → Int32) (C2 : Nat → Option Nat) (h2 : Nat) (gs0 : Int32) (gA : Nat → Nat → Int32) (tb0 : Int32) (tA0 bf0 : Nat → Int32) (hi0 : Int32) (x1 : Int32) {res : Int32 × ((Nat → Int32))} (h : pX1_gather gs0 (gA 2) x1 = some res) : gMv yX1_gather (.code yX1_gather cX1_gather 3 none :: gU) ({ frames := 4, cells := 0, slots := 0, locals := 150 } : Room) 0 0 E [.ref (q 3), .int x1] (cw E q r (gpl F) o0 A0 C0 h0 o1 A1 C1 h1 o2 A2 C2 h2 gs0 gA tb0 tA0 bf0 hi0) (fun w => w = cw E q r (gpl F) o0 A0 C0 h0 o1 A1 C1 h1 o2 A2 C2 h2 res.1 (gu gA 2 res.2) tb0 tA0 bf0 hi0) := by
  refine g_met_v (by decide +kernel) (Nat.le_of_ble_eq_true rfl) (fun Γ K hn hE hRm _ hret => ?_)
  subst hE
  have hlt : ∀ i, i < 3 → i < g_n Γ := fun i q => by rw [hn]; exact q
  refine g_ws (ws' := cw (g_E Γ) q r (gpl F) o0 A0 C0 h0 o1 A1 C1 h1 o2 A2 C2 h2 gs0 (gu gA 2 (gA 2)) tb0 tA0 bf0 hi0) rfl ?_
  refine g_sub (L' := [(0, .ref (q 3)), (1, .int x1)]) [0, 1] rfl ?_
  exact wX1_gather (C0 := C0) (h0 := h0) (C1 := C1) (h1 := h1) (C2 := C2) (h2 := h2) (gs0 := gs0) (tb0 := tb0) (tA0 := tA0) (bf0 := bf0) (hi0 := hi0) hF K hlt hRm hret gs0 (gA 2) x1 h

set_option maxHeartbeats 4000000 in
set_option maxRecDepth 100000 in
theorem wX1_meanOfTeam_13 {Γ : gT} {q : Nat → Nat} {r : Nat → Nat → Nat} {F : gF} (hF : gFz (g_E Γ) F) {o0 : Nat → Int32} {A0 : Nat → Nat → Int32} {C0 : Nat → Option Nat} {h0 : Nat} {o1 : Nat → Int32} {A1 : Nat → Nat → Int32} {C1 : Nat → Option Nat} {h1 : Nat} {o2 : Nat → Int32} {A2 : Nat → Nat → Int32} {C2 : Nat → Option Nat} {h2 : Nat} {gs0 : Int32} {gA : Nat → Nat → Int32} {tb0 : Int32} {tA0 bf0 : Nat → Int32} {hi0 : Int32} (K : gOK Γ cX1_meanOfTeam gU RX1) (hlt : ∀ i, i < 3 → i < g_n Γ) (hRm : g_R Γ = ({ frames := 4, cells := 0, slots := 0, locals := 150 } : Room)) {res : Int32} (hret : ∀ (pc : Nat) (L : List (Nat × Value)) (v : Int32) (w : va_W), decode cX1_meanOfTeam pc = .ok (.ireturn, 1) → narrow .int (.int v) = .int v → (v = res ∧ w = cw (g_E Γ) q r (gpl F) o0 A0 C0 h0 o1 A1 C1 h1 o2 A2 C2 h2 gs0 gA tb0 tA0 bf0 hi0) → gGO Γ 0 0 pc L [.int v] w) : ∀ (n : Nat) (x1 : Int32) (x2 : Int32), pX1_meanOfTeam_13 gs0 (gA 1) (gA 2) n x1 x2 = some res → gGO Γ 0 0 13 [(0, .ref (q 3)), (1, .int x1), (2, .int x2)] [] (cw (g_E Γ) q r (gpl F) o0 A0 C0 h0 o1 A1 C1 h1 o2 A2 C2 h2 gs0 gA tb0 tA0 bf0 hi0) := by
  intro n
  induction n with
  | zero => intro _ _ h; cases h
  | succ n ih =>
    intro x1 x2 h
    simp only [pX1_meanOfTeam_13] at h
    refine g_iload_n K dX1_meanOfTeam_13 rfl 2 rfl ?_
    refine g_aload_n K dX1_meanOfTeam_14 rfl 0 rfl ?_
    refine g_get (v := .int gs0) (T := TX1) (ref := "ChiefGrades$Grader") K hin_X1 4 rfl rfl 4 (by decide) u_291 (Or.inl rfl) rfl dX1_meanOfTeam_15 ?_
    obtain ⟨ht9, hf9⟩ := gi_br h; clear h
    refine g_icmp_ge (tgt := 41) K dX1_meanOfTeam_18 (by decide) (fun qh => ?_) (fun qh => ?_)
    · have h := ht9 qh; clear ht9 hf9
      refine g_iload_n K dX1_meanOfTeam_41 rfl 1 rfl ?_
      refine g_aload_n K dX1_meanOfTeam_42 rfl 0 rfl ?_
      refine g_get (v := .int gs0) (T := TX1) (ref := "ChiefGrades$Grader") K hin_X1 4 rfl rfl 4 (by decide) u_291 (Or.inl rfl) rfl dX1_meanOfTeam_43 ?_
      obtain ⟨c_1, h⟩ := gi_none h
      refine g_idiv K dX1_meanOfTeam_46 c_1 ?_
      obtain rfl := Option.some.inj h
      exact hret _ _ _ _ dX1_meanOfTeam_47 rfl ⟨rfl, rfl⟩
    · have h := hf9 qh; clear ht9 hf9
      refine g_iload_n K dX1_meanOfTeam_21 rfl 1 rfl ?_
      refine g_aload_n K dX1_meanOfTeam_22 rfl 0 rfl ?_
      refine g_get (v := .ref (r 3 1)) (T := TX1) (ref := "ChiefGrades$Grader") K hin_X1 4 rfl rfl 1 (by decide) u_288 (Or.inl rfl) rfl dX1_meanOfTeam_23 ?_
      refine g_aload_n K dX1_meanOfTeam_26 rfl 0 rfl ?_
      refine g_get (v := .ref (r 3 2)) (T := TX1) (ref := "ChiefGrades$Grader") K hin_X1 4 rfl rfl 2 (by decide) u_289 (Or.inl rfl) rfl dX1_meanOfTeam_27 ?_
      refine g_iload_n K dX1_meanOfTeam_30 rfl 2 rfl ?_
      obtain ⟨b_2, h⟩ := gi_none h
      refine g_iald (f := (gA 2)) K 38 rfl (ginb_in b_2) dX1_meanOfTeam_31 ?_
      obtain ⟨b_3, h⟩ := gi_none h
      refine g_iald (f := (gA 1)) K 37 rfl (ginb_in b_3) dX1_meanOfTeam_32 ?_
      refine g_iadd K dX1_meanOfTeam_33 ?_
      obtain ⟨v_4, ev_4, h⟩ := gi_nm h
      refine g_topi ev_4 ?_
      refine g_istore_n (L' := [(1, .int v_4), (0, .ref (q 3)), (2, .int x2)]) K dX1_meanOfTeam_34 rfl (hlt _ (by decide)) rfl ?_
      refine g_iinc (v := (x2 + 1)) (L' := [(2, .int (x2 + 1)), (1, .int v_4), (0, .ref (q 3))]) K dX1_meanOfTeam_35 2 rfl rfl (hlt _ (by decide)) rfl ?_
      refine g_goto (tgt := 13) K dX1_meanOfTeam_38 (by decide) ?_
      refine g_sub (L' := [(0, .ref (q 3)), (1, .int v_4), (2, .int (x2 + 1))]) [2, 1, 0] rfl ?_
      exact ih v_4 (x2 + 1) h

set_option maxHeartbeats 4000000 in
set_option maxRecDepth 100000 in
theorem wX1_meanOfTeam {Γ : gT} {q : Nat → Nat} {r : Nat → Nat → Nat} {F : gF} (hF : gFz (g_E Γ) F) {o0 : Nat → Int32} {A0 : Nat → Nat → Int32} {C0 : Nat → Option Nat} {h0 : Nat} {o1 : Nat → Int32} {A1 : Nat → Nat → Int32} {C1 : Nat → Option Nat} {h1 : Nat} {o2 : Nat → Int32} {A2 : Nat → Nat → Int32} {C2 : Nat → Option Nat} {h2 : Nat} {gs0 : Int32} {gA : Nat → Nat → Int32} {tb0 : Int32} {tA0 bf0 : Nat → Int32} {hi0 : Int32} (K : gOK Γ cX1_meanOfTeam gU RX1) (hlt : ∀ i, i < 3 → i < g_n Γ) (hRm : g_R Γ = ({ frames := 4, cells := 0, slots := 0, locals := 150 } : Room)) {res : Int32} (hret : ∀ (pc : Nat) (L : List (Nat × Value)) (v : Int32) (w : va_W), decode cX1_meanOfTeam pc = .ok (.ireturn, 1) → narrow .int (.int v) = .int v → (v = res ∧ w = cw (g_E Γ) q r (gpl F) o0 A0 C0 h0 o1 A1 C1 h1 o2 A2 C2 h2 gs0 gA tb0 tA0 bf0 hi0) → gGO Γ 0 0 pc L [.int v] w) (h : pX1_meanOfTeam gs0 (gA 1) (gA 2) = some res) : gGO Γ 0 0 0 [(0, .ref (q 3))] [] (cw (g_E Γ) q r (gpl F) o0 A0 C0 h0 o1 A1 C1 h1 o2 A2 C2 h2 gs0 gA tb0 tA0 bf0 hi0) := by
    unfold pX1_meanOfTeam at h
    refine g_aload_n K dX1_meanOfTeam_0 rfl 0 rfl ?_
    refine g_get (v := .int gs0) (T := TX1) (ref := "ChiefGrades$Grader") K hin_X1 4 rfl rfl 4 (by decide) u_291 (Or.inl rfl) rfl dX1_meanOfTeam_1 ?_
    obtain ⟨ht9, hf9⟩ := gi_br h; clear h
    refine g_if_ne (tgt := 9) K dX1_meanOfTeam_4 (by decide) (fun qh => ?_) (fun qh => ?_)
    · have h := hf9 qh; clear ht9 hf9
      refine g_iconst (v := 0) K dX1_meanOfTeam_9 (by decide) ?_
      refine g_istore_n (L' := [(1, .int 0), (0, .ref (q 3))]) K dX1_meanOfTeam_10 rfl (hlt _ (by decide)) rfl ?_
      refine g_iconst (v := 0) K dX1_meanOfTeam_11 (by decide) ?_
      refine g_istore_n (L' := [(2, .int 0), (1, .int 0), (0, .ref (q 3))]) K dX1_meanOfTeam_12 rfl (hlt _ (by decide)) rfl ?_
      refine g_sub (L' := [(0, .ref (q 3)), (1, .int 0), (2, .int 0)]) [2, 1, 0] rfl ?_
      exact wX1_meanOfTeam_13 (C0 := C0) (h0 := h0) (C1 := C1) (h1 := h1) (C2 := C2) (h2 := h2) (gs0 := gs0) (tb0 := tb0) (tA0 := tA0) (bf0 := bf0) (hi0 := hi0) hF K hlt hRm hret 1000 0 0 h
    · have h := ht9 qh; clear ht9 hf9
      refine g_iconst (v := 0) K dX1_meanOfTeam_7 (by decide) ?_
      obtain rfl := Option.some.inj h
      exact hret _ _ _ _ dX1_meanOfTeam_8 rfl ⟨rfl, rfl⟩

set_option maxRecDepth 100000 in
theorem ctX1_meanOfTeam {E : gE} {q : Nat → Nat} {r : Nat → Nat → Nat} {F : gF} (hF : gFz E F) (o0 : Nat → Int32) (A0 : Nat → Nat → Int32) (C0 : Nat → Option Nat) (h0 : Nat) (o1 : Nat → Int32) (A1 : Nat → Nat → Int32) (C1 : Nat → Option Nat) (h1 : Nat) (o2 : Nat → Int32) (A2 : Nat → Nat → Int32) (C2 : Nat → Option Nat) (h2 : Nat) (gs0 : Int32) (gA : Nat → Nat → Int32) (tb0 : Int32) (tA0 bf0 : Nat → Int32) (hi0 : Int32) {res : Int32} (h : pX1_meanOfTeam gs0 (gA 1) (gA 2) = some res) : gMi yX1_meanOfTeam (.code yX1_meanOfTeam cX1_meanOfTeam 3 (some .int) :: gU) ({ frames := 4, cells := 0, slots := 0, locals := 150 } : Room) 0 0 E [.ref (q 3)] (cw E q r (gpl F) o0 A0 C0 h0 o1 A1 C1 h1 o2 A2 C2 h2 gs0 gA tb0 tA0 bf0 hi0) (fun v w => v = res ∧ w = cw E q r (gpl F) o0 A0 C0 h0 o1 A1 C1 h1 o2 A2 C2 h2 gs0 gA tb0 tA0 bf0 hi0) := by
  refine g_met_i (by decide +kernel) (Nat.le_of_ble_eq_true rfl) (fun Γ K hn hE hRm _ hret => ?_)
  subst hE
  have hlt : ∀ i, i < 3 → i < g_n Γ := fun i q => by rw [hn]; exact q
  refine g_sub (L' := [(0, .ref (q 3))]) [0] rfl ?_
  exact wX1_meanOfTeam (C0 := C0) (h0 := h0) (C1 := C1) (h1 := h1) (C2 := C2) (h2 := h2) (gs0 := gs0) (tb0 := tb0) (tA0 := tA0) (bf0 := bf0) (hi0 := hi0) hF K hlt hRm hret h

set_option maxHeartbeats 4000000 in
set_option maxRecDepth 100000 in
theorem wX10_teamBits_w0_4 {Γ : gT} {q : Nat → Nat} {r : Nat → Nat → Nat} {F : gF} (hF : gFz (g_E Γ) F) {o0 : Nat → Int32} {A0 : Nat → Nat → Int32} {C0 : Nat → Option Nat} {h0 : Nat} {o1 : Nat → Int32} {A1 : Nat → Nat → Int32} {C1 : Nat → Option Nat} {h1 : Nat} {o2 : Nat → Int32} {A2 : Nat → Nat → Int32} {C2 : Nat → Option Nat} {h2 : Nat} {gs0 : Int32} {gA : Nat → Nat → Int32} {tb0 : Int32} {tA0 bf0 : Nat → Int32} {hi0 : Int32} (K : gOK Γ cX10_teamBits gU RX10) (hlt : ∀ i, i < 4 → i < g_n Γ) (hRm : g_R Γ = ({ frames := 4, cells := 0, slots := 0, locals := 150 } : Room)) {res : Int32} (hret : ∀ (pc : Nat) (L : List (Nat × Value)) (v : Int32) (w : va_W), decode cX10_teamBits pc = .ok (.ireturn, 1) → narrow .int (.int v) = .int v → (v = res ∧ w = cw (g_E Γ) q r (gpl F) o0 A0 C0 h0 o1 A1 C1 h1 o2 A2 C2 h2 gs0 gA tb0 tA0 bf0 hi0) → gGO Γ 0 0 pc L [.int v] w) : ∀ (n : Nat) (x1 : Int32) (x2 : Int32) (x3 : Int32), pX10_teamBits_w0_4 (o0 0) (A0 10) n x1 x2 x3 = some res → gGO Γ 0 0 4 [(0, .ref (q 0)), (1, .int x1), (2, .int x2), (3, .int x3)] [] (cw (g_E Γ) q r (gpl F) o0 A0 C0 h0 o1 A1 C1 h1 o2 A2 C2 h2 gs0 gA tb0 tA0 bf0 hi0) := by
  intro n
  induction n with
  | zero => intro _ _ _ h; cases h
  | succ n ih =>
    intro x1 x2 x3 h
    simp only [pX10_teamBits_w0_4] at h
    refine g_iload_n K dX10_teamBits_4 rfl 3 rfl ?_
    refine g_aload_n K dX10_teamBits_5 rfl 0 rfl ?_
    refine g_get (v := .int (o0 0)) (T := TX10) (ref := "ChiefGrades$World") K hin_X10 1 rfl rfl 0 (by decide) u_158 (Or.inl rfl) rfl dX10_teamBits_6 ?_
    obtain ⟨ht9, hf9⟩ := gi_br h; clear h
    refine g_icmp_ge (tgt := 34) K dX10_teamBits_9 (by decide) (fun qh => ?_) (fun qh => ?_)
    · have h := ht9 qh; clear ht9 hf9
      refine g_iload_n K dX10_teamBits_34 rfl 2 rfl ?_
      obtain rfl := Option.some.inj h
      exact hret _ _ _ _ dX10_teamBits_35 rfl ⟨rfl, rfl⟩
    · have h := hf9 qh; clear ht9 hf9
      refine g_aload_n K dX10_teamBits_12 rfl 0 rfl ?_
      refine g_get (v := .ref (r 0 10)) (T := TX10) (ref := "ChiefGrades$World") K hin_X10 1 rfl rfl 10 (by decide) u_183 (Or.inl rfl) rfl dX10_teamBits_13 ?_
      refine g_iload_n K dX10_teamBits_16 rfl 3 rfl ?_
      obtain ⟨b_1, h⟩ := gi_none h
      refine g_iald (f := (A0 10)) K 8 rfl (ginb_in b_1) dX10_teamBits_17 ?_
      refine g_iload_n K dX10_teamBits_18 rfl 1 rfl ?_
      obtain ⟨ht9, hf9⟩ := gi_br h; clear h
      refine g_icmp_ne (tgt := 28) K dX10_teamBits_19 (by decide) (fun qh => ?_) (fun qh => ?_)
      · have h := hf9 qh; clear ht9 hf9
        refine g_iinc (v := (x3 + 1)) (L' := [(3, .int (x3 + 1)), (0, .ref (q 0)), (1, .int x1), (2, .int x2)]) K dX10_teamBits_28 3 rfl rfl (hlt _ (by decide)) rfl ?_
        refine g_goto (tgt := 4) K dX10_teamBits_31 (by decide) ?_
        refine g_sub (L' := [(0, .ref (q 0)), (1, .int x1), (2, .int x2), (3, .int (x3 + 1))]) [1, 2, 3, 0] rfl ?_
        exact ih x1 x2 (x3 + 1) h
      · have h := ht9 qh; clear ht9 hf9
        refine g_iload_n K dX10_teamBits_22 rfl 2 rfl ?_
        refine g_iconst (v := 1) K dX10_teamBits_23 (by decide) ?_
        refine g_iload_n K dX10_teamBits_24 rfl 3 rfl ?_
        refine g_ishl K dX10_teamBits_25 ?_
        refine g_ior K dX10_teamBits_26 ?_
        obtain ⟨v_2, ev_2, h⟩ := gi_nm h
        refine g_topi ev_2 ?_
        refine g_istore_n (L' := [(2, .int v_2), (0, .ref (q 0)), (1, .int x1), (3, .int x3)]) K dX10_teamBits_27 rfl (hlt _ (by decide)) rfl ?_
        refine g_iinc (v := (x3 + 1)) (L' := [(3, .int (x3 + 1)), (2, .int v_2), (0, .ref (q 0)), (1, .int x1)]) K dX10_teamBits_28 3 rfl rfl (hlt _ (by decide)) rfl ?_
        refine g_goto (tgt := 4) K dX10_teamBits_31 (by decide) ?_
        refine g_sub (L' := [(0, .ref (q 0)), (1, .int x1), (2, .int v_2), (3, .int (x3 + 1))]) [2, 3, 1, 0] rfl ?_
        exact ih x1 v_2 (x3 + 1) h

set_option maxHeartbeats 4000000 in
set_option maxRecDepth 100000 in
theorem wX10_teamBits_w0 {Γ : gT} {q : Nat → Nat} {r : Nat → Nat → Nat} {F : gF} (hF : gFz (g_E Γ) F) {o0 : Nat → Int32} {A0 : Nat → Nat → Int32} {C0 : Nat → Option Nat} {h0 : Nat} {o1 : Nat → Int32} {A1 : Nat → Nat → Int32} {C1 : Nat → Option Nat} {h1 : Nat} {o2 : Nat → Int32} {A2 : Nat → Nat → Int32} {C2 : Nat → Option Nat} {h2 : Nat} {gs0 : Int32} {gA : Nat → Nat → Int32} {tb0 : Int32} {tA0 bf0 : Nat → Int32} {hi0 : Int32} (K : gOK Γ cX10_teamBits gU RX10) (hlt : ∀ i, i < 4 → i < g_n Γ) (hRm : g_R Γ = ({ frames := 4, cells := 0, slots := 0, locals := 150 } : Room)) {res : Int32} (hret : ∀ (pc : Nat) (L : List (Nat × Value)) (v : Int32) (w : va_W), decode cX10_teamBits pc = .ok (.ireturn, 1) → narrow .int (.int v) = .int v → (v = res ∧ w = cw (g_E Γ) q r (gpl F) o0 A0 C0 h0 o1 A1 C1 h1 o2 A2 C2 h2 gs0 gA tb0 tA0 bf0 hi0) → gGO Γ 0 0 pc L [.int v] w) (x1 : Int32) (h : pX10_teamBits_w0 (o0 0) (A0 10) x1 = some res) : gGO Γ 0 0 0 [(0, .ref (q 0)), (1, .int x1)] [] (cw (g_E Γ) q r (gpl F) o0 A0 C0 h0 o1 A1 C1 h1 o2 A2 C2 h2 gs0 gA tb0 tA0 bf0 hi0) := by
    unfold pX10_teamBits_w0 at h
    refine g_iconst (v := 0) K dX10_teamBits_0 (by decide) ?_
    refine g_istore_n (L' := [(2, .int 0), (0, .ref (q 0)), (1, .int x1)]) K dX10_teamBits_1 rfl (hlt _ (by decide)) rfl ?_
    refine g_iconst (v := 0) K dX10_teamBits_2 (by decide) ?_
    refine g_istore_n (L' := [(3, .int 0), (2, .int 0), (0, .ref (q 0)), (1, .int x1)]) K dX10_teamBits_3 rfl (hlt _ (by decide)) rfl ?_
    refine g_sub (L' := [(0, .ref (q 0)), (1, .int x1), (2, .int 0), (3, .int 0)]) [2, 3, 1, 0] rfl ?_
    exact wX10_teamBits_w0_4 (C0 := C0) (h0 := h0) (C1 := C1) (h1 := h1) (C2 := C2) (h2 := h2) (gs0 := gs0) (tb0 := tb0) (tA0 := tA0) (bf0 := bf0) (hi0 := hi0) hF K hlt hRm hret 1000 x1 0 0 h

set_option maxRecDepth 100000 in
theorem ctX10_teamBits_w0 {E : gE} {q : Nat → Nat} {r : Nat → Nat → Nat} {F : gF} (hF : gFz E F) (o0 : Nat → Int32) (A0 : Nat → Nat → Int32) (C0 : Nat → Option Nat) (h0 : Nat) (o1 : Nat → Int32) (A1 : Nat → Nat → Int32) (C1 : Nat → Option Nat) (h1 : Nat) (o2 : Nat → Int32) (A2 : Nat → Nat → Int32) (C2 : Nat → Option Nat) (h2 : Nat) (gs0 : Int32) (gA : Nat → Nat → Int32) (tb0 : Int32) (tA0 bf0 : Nat → Int32) (hi0 : Int32) (x1 : Int32) {res : Int32} (h : pX10_teamBits_w0 (o0 0) (A0 10) x1 = some res) : gMi yX10_teamBits (.code yX10_teamBits cX10_teamBits 4 (some .int) :: gU) ({ frames := 4, cells := 0, slots := 0, locals := 150 } : Room) 0 0 E [.ref (q 0), .int x1] (cw E q r (gpl F) o0 A0 C0 h0 o1 A1 C1 h1 o2 A2 C2 h2 gs0 gA tb0 tA0 bf0 hi0) (fun v w => v = res ∧ w = cw E q r (gpl F) o0 A0 C0 h0 o1 A1 C1 h1 o2 A2 C2 h2 gs0 gA tb0 tA0 bf0 hi0) := by
  refine g_met_i (by decide +kernel) (Nat.le_of_ble_eq_true rfl) (fun Γ K hn hE hRm _ hret => ?_)
  subst hE
  have hlt : ∀ i, i < 4 → i < g_n Γ := fun i q => by rw [hn]; exact q
  refine g_sub (L' := [(0, .ref (q 0)), (1, .int x1)]) [0, 1] rfl ?_
  exact wX10_teamBits_w0 (C0 := C0) (h0 := h0) (C1 := C1) (h1 := h1) (C2 := C2) (h2 := h2) (gs0 := gs0) (tb0 := tb0) (tA0 := tA0) (bf0 := bf0) (hi0 := hi0) hF K hlt hRm hret x1 h

set_option maxHeartbeats 4000000 in
set_option maxRecDepth 100000 in
theorem wX1_rank_84 {Γ : gT} {q : Nat → Nat} {r : Nat → Nat → Nat} {F : gF} (hF : gFz (g_E Γ) F) {o0 : Nat → Int32} {A0 : Nat → Nat → Int32} {C0 : Nat → Option Nat} {h0 : Nat} {o1 : Nat → Int32} {A1 : Nat → Nat → Int32} {C1 : Nat → Option Nat} {h1 : Nat} {o2 : Nat → Int32} {A2 : Nat → Nat → Int32} {C2 : Nat → Option Nat} {h2 : Nat} {gs0 : Int32} {gA : Nat → Nat → Int32} {tb0 : Int32} {tA0 bf0 : Nat → Int32} {hi0 : Int32} (K : gOK Γ cX1_rank gU RX1) (hlt : ∀ i, i < 6 → i < g_n Γ) (hRm : g_R Γ = ({ frames := 4, cells := 0, slots := 0, locals := 150 } : Room)) {res : ((Nat → Int32))} (hret : ∀ (pc : Nat) (L : List (Nat × Value)) (w : va_W), decode cX1_rank pc = .ok (.return_, 1) → (w = cw (g_E Γ) q r (gpl F) o0 A0 C0 h0 o1 A1 C1 h1 o2 A2 C2 h2 gs0 (gu gA 3 res) tb0 tA0 bf0 hi0) → gGO Γ 0 0 pc L [] w) {k2 : (Nat → Int32) → Int32 → Option (((Nat → Int32)))} (hk2 : ∀ (ga3 : (Nat → Int32)) (x1 : Int32), k2 ga3 x1 = some res → gGO Γ 0 0 2 [(0, .ref (q 3)), (1, .int x1)] [] (cw (g_E Γ) q r (gpl F) o0 A0 C0 h0 o1 A1 C1 h1 o2 A2 C2 h2 gs0 (gu gA 3 ga3) tb0 tA0 bf0 hi0)) {k14 : (Nat → Int32) → Int32 → Int32 → Int32 → Option (((Nat → Int32)))} (hk14 : ∀ (ga3 : (Nat → Int32)) (x1 : Int32) (x2 : Int32) (x3 : Int32), k14 ga3 x1 x2 x3 = some res → gGO Γ 0 0 14 [(0, .ref (q 3)), (1, .int x1), (2, .int x2), (3, .int x3)] [] (cw (g_E Γ) q r (gpl F) o0 A0 C0 h0 o1 A1 C1 h1 o2 A2 C2 h2 gs0 (gu gA 3 ga3) tb0 tA0 bf0 hi0)) (ga3 : (Nat → Int32)) (x1 : Int32) (x2 : Int32) (x3 : Int32) (x4 : Int32) (y0 : Int32) (h : pX1_rank_84 k2 k14 gs0 (gA 1) (gA 2) ga3 x1 x2 x3 x4 y0 = some res) : gGO Γ 0 0 84 [(0, .ref (q 3)), (1, .int x1), (2, .int x2), (3, .int x3), (4, .int x4)] [.int y0] (cw (g_E Γ) q r (gpl F) o0 A0 C0 h0 o1 A1 C1 h1 o2 A2 C2 h2 gs0 (gu gA 3 ga3) tb0 tA0 bf0 hi0) := by
    unfold pX1_rank_84 at h
    refine g_istore (L' := [(5, .int y0), (0, .ref (q 3)), (1, .int x1), (2, .int x2), (3, .int x3), (4, .int x4)]) K dX1_rank_84 (hlt _ (by decide)) rfl ?_
    refine g_iload K dX1_rank_86 5 rfl ?_
    obtain ⟨ht9, hf9⟩ := gi_br h; clear h
    refine g_if_ne (tgt := 101) K dX1_rank_88 (by decide) (fun qh => ?_) (fun qh => ?_)
    · have h := hf9 qh; clear ht9 hf9
      refine g_iinc (v := (x2 + 1)) (L' := [(2, .int (x2 + 1)), (5, .int y0), (0, .ref (q 3)), (1, .int x1), (3, .int x3), (4, .int x4)]) K dX1_rank_101 3 rfl rfl (hlt _ (by decide)) rfl ?_
      refine g_iinc (v := (x3 + 1)) (L' := [(3, .int (x3 + 1)), (2, .int (x2 + 1)), (5, .int y0), (0, .ref (q 3)), (1, .int x1), (4, .int x4)]) K dX1_rank_104 4 rfl rfl (hlt _ (by decide)) rfl ?_
      refine g_goto (tgt := 14) K dX1_rank_107 (by decide) ?_
      refine g_sub (L' := [(0, .ref (q 3)), (1, .int x1), (2, .int (x2 + 1)), (3, .int (x3 + 1))]) [3, 4, 1, 0] rfl ?_
      exact hk14 ga3 x1 (x2 + 1) (x3 + 1) h
    · have h := ht9 qh; clear ht9 hf9
      refine g_iload K dX1_rank_91 0 rfl ?_
      obtain ⟨ht9, hf9⟩ := gi_br h; clear h
      refine g_if_eq (tgt := 104) K dX1_rank_93 (by decide) (fun qh => ?_) (fun qh => ?_)
      · have h := ht9 qh; clear ht9 hf9
        refine g_iinc (v := (x3 + 1)) (L' := [(3, .int (x3 + 1)), (5, .int y0), (0, .ref (q 3)), (1, .int x1), (2, .int x2), (4, .int x4)]) K dX1_rank_104 4 rfl rfl (hlt _ (by decide)) rfl ?_
        refine g_goto (tgt := 14) K dX1_rank_107 (by decide) ?_
        refine g_sub (L' := [(0, .ref (q 3)), (1, .int x1), (2, .int x2), (3, .int (x3 + 1))]) [2, 3, 4, 0] rfl ?_
        exact hk14 ga3 x1 x2 (x3 + 1) h
      · have h := hf9 qh; clear ht9 hf9
        refine g_iload_n K dX1_rank_96 rfl 4 rfl ?_
        refine g_iload_n K dX1_rank_97 rfl 2 rfl ?_
        obtain ⟨ht9, hf9⟩ := gi_br h; clear h
        refine g_icmp_le (tgt := 104) K dX1_rank_98 (by decide) (fun qh => ?_) (fun qh => ?_)
        · have h := ht9 qh; clear ht9 hf9
          refine g_iinc (v := (x3 + 1)) (L' := [(3, .int (x3 + 1)), (5, .int y0), (0, .ref (q 3)), (1, .int x1), (2, .int x2), (4, .int x4)]) K dX1_rank_104 4 rfl rfl (hlt _ (by decide)) rfl ?_
          refine g_goto (tgt := 14) K dX1_rank_107 (by decide) ?_
          refine g_sub (L' := [(0, .ref (q 3)), (1, .int x1), (2, .int x2), (3, .int (x3 + 1))]) [2, 3, 4, 0] rfl ?_
          exact hk14 ga3 x1 x2 (x3 + 1) h
        · have h := hf9 qh; clear ht9 hf9
          refine g_iinc (v := (x2 + 1)) (L' := [(2, .int (x2 + 1)), (5, .int y0), (0, .ref (q 3)), (1, .int x1), (3, .int x3), (4, .int x4)]) K dX1_rank_101 3 rfl rfl (hlt _ (by decide)) rfl ?_
          refine g_iinc (v := (x3 + 1)) (L' := [(3, .int (x3 + 1)), (2, .int (x2 + 1)), (5, .int y0), (0, .ref (q 3)), (1, .int x1), (4, .int x4)]) K dX1_rank_104 4 rfl rfl (hlt _ (by decide)) rfl ?_
          refine g_goto (tgt := 14) K dX1_rank_107 (by decide) ?_
          refine g_sub (L' := [(0, .ref (q 3)), (1, .int x1), (2, .int (x2 + 1)), (3, .int (x3 + 1))]) [3, 4, 1, 0] rfl ?_
          exact hk14 ga3 x1 (x2 + 1) (x3 + 1) h

set_option maxHeartbeats 4000000 in
set_option maxRecDepth 100000 in
theorem wX1_rank_52 {Γ : gT} {q : Nat → Nat} {r : Nat → Nat → Nat} {F : gF} (hF : gFz (g_E Γ) F) {o0 : Nat → Int32} {A0 : Nat → Nat → Int32} {C0 : Nat → Option Nat} {h0 : Nat} {o1 : Nat → Int32} {A1 : Nat → Nat → Int32} {C1 : Nat → Option Nat} {h1 : Nat} {o2 : Nat → Int32} {A2 : Nat → Nat → Int32} {C2 : Nat → Option Nat} {h2 : Nat} {gs0 : Int32} {gA : Nat → Nat → Int32} {tb0 : Int32} {tA0 bf0 : Nat → Int32} {hi0 : Int32} (K : gOK Γ cX1_rank gU RX1) (hlt : ∀ i, i < 6 → i < g_n Γ) (hRm : g_R Γ = ({ frames := 4, cells := 0, slots := 0, locals := 150 } : Room)) {res : ((Nat → Int32))} (hret : ∀ (pc : Nat) (L : List (Nat × Value)) (w : va_W), decode cX1_rank pc = .ok (.return_, 1) → (w = cw (g_E Γ) q r (gpl F) o0 A0 C0 h0 o1 A1 C1 h1 o2 A2 C2 h2 gs0 (gu gA 3 res) tb0 tA0 bf0 hi0) → gGO Γ 0 0 pc L [] w) {k2 : (Nat → Int32) → Int32 → Option (((Nat → Int32)))} (hk2 : ∀ (ga3 : (Nat → Int32)) (x1 : Int32), k2 ga3 x1 = some res → gGO Γ 0 0 2 [(0, .ref (q 3)), (1, .int x1)] [] (cw (g_E Γ) q r (gpl F) o0 A0 C0 h0 o1 A1 C1 h1 o2 A2 C2 h2 gs0 (gu gA 3 ga3) tb0 tA0 bf0 hi0)) {k14 : (Nat → Int32) → Int32 → Int32 → Int32 → Option (((Nat → Int32)))} (hk14 : ∀ (ga3 : (Nat → Int32)) (x1 : Int32) (x2 : Int32) (x3 : Int32), k14 ga3 x1 x2 x3 = some res → gGO Γ 0 0 14 [(0, .ref (q 3)), (1, .int x1), (2, .int x2), (3, .int x3)] [] (cw (g_E Γ) q r (gpl F) o0 A0 C0 h0 o1 A1 C1 h1 o2 A2 C2 h2 gs0 (gu gA 3 ga3) tb0 tA0 bf0 hi0)) (ga3 : (Nat → Int32)) (x1 : Int32) (x2 : Int32) (x3 : Int32) (y0 : Int32) (h : pX1_rank_52 k2 k14 gs0 (gA 1) (gA 2) ga3 x1 x2 x3 y0 = some res) : gGO Γ 0 0 52 [(0, .ref (q 3)), (1, .int x1), (2, .int x2), (3, .int x3)] [.int y0] (cw (g_E Γ) q r (gpl F) o0 A0 C0 h0 o1 A1 C1 h1 o2 A2 C2 h2 gs0 (gu gA 3 ga3) tb0 tA0 bf0 hi0) := by
    unfold pX1_rank_52 at h
    refine g_istore (L' := [(4, .int y0), (0, .ref (q 3)), (1, .int x1), (2, .int x2), (3, .int x3)]) K dX1_rank_52 (hlt _ (by decide)) rfl ?_
    refine g_aload_n K dX1_rank_54 rfl 1 rfl ?_
    refine g_get (v := .ref (r 3 1)) (T := TX1) (ref := "ChiefGrades$Grader") K hin_X1 4 rfl rfl 1 (by decide) u_288 (Or.inl rfl) rfl dX1_rank_55 ?_
    refine g_aload_n K dX1_rank_58 rfl 1 rfl ?_
    refine g_get (v := .ref (r 3 2)) (T := TX1) (ref := "ChiefGrades$Grader") K hin_X1 4 rfl rfl 2 (by decide) u_289 (Or.inl rfl) rfl dX1_rank_59 ?_
    refine g_iload_n K dX1_rank_62 rfl 4 rfl ?_
    obtain ⟨b_1, h⟩ := gi_none h
    refine g_iald (f := (gA 2)) K 38 rfl (ginb_in b_1) dX1_rank_63 ?_
    obtain ⟨b_2, h⟩ := gi_none h
    refine g_iald (f := (gA 1)) K 37 rfl (ginb_in b_2) dX1_rank_64 ?_
    refine g_aload_n K dX1_rank_65 rfl 1 rfl ?_
    refine g_get (v := .ref (r 3 1)) (T := TX1) (ref := "ChiefGrades$Grader") K hin_X1 4 rfl rfl 1 (by decide) u_288 (Or.inl rfl) rfl dX1_rank_66 ?_
    refine g_aload_n K dX1_rank_69 rfl 1 rfl ?_
    refine g_get (v := .ref (r 3 2)) (T := TX1) (ref := "ChiefGrades$Grader") K hin_X1 4 rfl rfl 2 (by decide) u_289 (Or.inl rfl) rfl dX1_rank_70 ?_
    refine g_iload_n K dX1_rank_73 rfl 2 rfl ?_
    obtain ⟨b_3, h⟩ := gi_none h
    refine g_iald (f := (gA 2)) K 38 rfl (ginb_in b_3) dX1_rank_74 ?_
    obtain ⟨b_4, h⟩ := gi_none h
    refine g_iald (f := (gA 1)) K 37 rfl (ginb_in b_4) dX1_rank_75 ?_
    obtain ⟨ht9, hf9⟩ := gi_br h; clear h
    refine g_icmp_ne (tgt := 83) K dX1_rank_76 (by decide) (fun qh => ?_) (fun qh => ?_)
    · have h := hf9 qh; clear ht9 hf9
      refine g_iconst (v := 0) K dX1_rank_83 (by decide) ?_
      refine g_sub (L' := [(0, .ref (q 3)), (1, .int x1), (2, .int x2), (3, .int x3), (4, .int y0)]) [1, 2, 3, 4, 0] rfl ?_
      exact wX1_rank_84 (C0 := C0) (h0 := h0) (C1 := C1) (h1 := h1) (C2 := C2) (h2 := h2) (gs0 := gs0) (tb0 := tb0) (tA0 := tA0) (bf0 := bf0) (hi0 := hi0) hF K hlt hRm hret hk2 hk14 ga3 x1 x2 x3 y0 0 h
    · have h := ht9 qh; clear ht9 hf9
      refine g_iconst (v := 1) K dX1_rank_79 (by decide) ?_
      refine g_goto (tgt := 84) K dX1_rank_80 (by decide) ?_
      refine g_sub (L' := [(0, .ref (q 3)), (1, .int x1), (2, .int x2), (3, .int x3), (4, .int y0)]) [1, 2, 3, 4, 0] rfl ?_
      exact wX1_rank_84 (C0 := C0) (h0 := h0) (C1 := C1) (h1 := h1) (C2 := C2) (h2 := h2) (gs0 := gs0) (tb0 := tb0) (tA0 := tA0) (bf0 := bf0) (hi0 := hi0) hF K hlt hRm hret hk2 hk14 ga3 x1 x2 x3 y0 1 h

set_option maxHeartbeats 4000000 in
set_option maxRecDepth 100000 in
theorem wX1_rank_14 {Γ : gT} {q : Nat → Nat} {r : Nat → Nat → Nat} {F : gF} (hF : gFz (g_E Γ) F) {o0 : Nat → Int32} {A0 : Nat → Nat → Int32} {C0 : Nat → Option Nat} {h0 : Nat} {o1 : Nat → Int32} {A1 : Nat → Nat → Int32} {C1 : Nat → Option Nat} {h1 : Nat} {o2 : Nat → Int32} {A2 : Nat → Nat → Int32} {C2 : Nat → Option Nat} {h2 : Nat} {gs0 : Int32} {gA : Nat → Nat → Int32} {tb0 : Int32} {tA0 bf0 : Nat → Int32} {hi0 : Int32} (K : gOK Γ cX1_rank gU RX1) (hlt : ∀ i, i < 6 → i < g_n Γ) (hRm : g_R Γ = ({ frames := 4, cells := 0, slots := 0, locals := 150 } : Room)) {res : ((Nat → Int32))} (hret : ∀ (pc : Nat) (L : List (Nat × Value)) (w : va_W), decode cX1_rank pc = .ok (.return_, 1) → (w = cw (g_E Γ) q r (gpl F) o0 A0 C0 h0 o1 A1 C1 h1 o2 A2 C2 h2 gs0 (gu gA 3 res) tb0 tA0 bf0 hi0) → gGO Γ 0 0 pc L [] w) {k2 : (Nat → Int32) → Int32 → Option (((Nat → Int32)))} (hk2 : ∀ (ga3 : (Nat → Int32)) (x1 : Int32), k2 ga3 x1 = some res → gGO Γ 0 0 2 [(0, .ref (q 3)), (1, .int x1)] [] (cw (g_E Γ) q r (gpl F) o0 A0 C0 h0 o1 A1 C1 h1 o2 A2 C2 h2 gs0 (gu gA 3 ga3) tb0 tA0 bf0 hi0)) : ∀ (n : Nat) (ga3 : (Nat → Int32)) (x1 : Int32) (x2 : Int32) (x3 : Int32), pX1_rank_14 k2 gs0 (gA 1) (gA 2) n ga3 x1 x2 x3 = some res → gGO Γ 0 0 14 [(0, .ref (q 3)), (1, .int x1), (2, .int x2), (3, .int x3)] [] (cw (g_E Γ) q r (gpl F) o0 A0 C0 h0 o1 A1 C1 h1 o2 A2 C2 h2 gs0 (gu gA 3 ga3) tb0 tA0 bf0 hi0) := by
  intro n
  induction n with
  | zero => intro _ _ _ _ h; cases h
  | succ n ih =>
    intro ga3 x1 x2 x3 h
    simp only [pX1_rank_14] at h
    refine g_iload_n K dX1_rank_14 rfl 3 rfl ?_
    refine g_aload_n K dX1_rank_15 rfl 0 rfl ?_
    refine g_get (v := .int gs0) (T := TX1) (ref := "ChiefGrades$Grader") K hin_X1 4 rfl rfl 4 (by decide) u_291 (Or.inl rfl) rfl dX1_rank_16 ?_
    obtain ⟨ht9, hf9⟩ := gi_br h; clear h
    refine g_icmp_ge (tgt := 110) K dX1_rank_19 (by decide) (fun qh => ?_) (fun qh => ?_)
    · have h := ht9 qh; clear ht9 hf9
      refine g_aload_n K dX1_rank_110 rfl 0 rfl ?_
      refine g_get (v := .ref (r 3 3)) (T := TX1) (ref := "ChiefGrades$Grader") K hin_X1 4 rfl rfl 3 (by decide) u_290 (Or.inl rfl) rfl dX1_rank_111 ?_
      refine g_iload_n K dX1_rank_114 rfl 2 rfl ?_
      refine g_aload_n K dX1_rank_115 rfl 0 rfl ?_
      refine g_get (v := .ref (r 3 2)) (T := TX1) (ref := "ChiefGrades$Grader") K hin_X1 4 rfl rfl 2 (by decide) u_289 (Or.inl rfl) rfl dX1_rank_116 ?_
      refine g_iload_n K dX1_rank_119 rfl 1 rfl ?_
      obtain ⟨b_1, h⟩ := gi_none h
      refine g_iald (f := (gA 2)) K 38 rfl (ginb_in b_1) dX1_rank_120 ?_
      obtain ⟨b_2, h⟩ := gi_none h
      obtain ⟨f_3, ef_3, h⟩ := gi_nm h
      refine g_iast (f := ga3) (ws' := cw (g_E Γ) q r (gpl F) o0 A0 C0 h0 o1 A1 C1 h1 o2 A2 C2 h2 gs0 (gu gA 3 f_3) tb0 tA0 bf0 hi0) K 39 rfl (ginb_in b_2) dX1_rank_121 (by rw [ef_3]; rfl) ?_
      refine g_iinc (v := (x1 + 1)) (L' := [(1, .int (x1 + 1)), (0, .ref (q 3)), (2, .int x2), (3, .int x3)]) K dX1_rank_122 1 rfl rfl (hlt _ (by decide)) rfl ?_
      refine g_goto (tgt := 2) K dX1_rank_125 (by decide) ?_
      refine g_sub (L' := [(0, .ref (q 3)), (1, .int (x1 + 1))]) [1, 0] rfl ?_
      exact hk2 f_3 (x1 + 1) h
    · have h := hf9 qh; clear ht9 hf9
      refine g_aload_n K dX1_rank_22 rfl 0 rfl ?_
      refine g_get (v := .ref (r 3 1)) (T := TX1) (ref := "ChiefGrades$Grader") K hin_X1 4 rfl rfl 1 (by decide) u_288 (Or.inl rfl) rfl dX1_rank_23 ?_
      refine g_aload_n K dX1_rank_26 rfl 0 rfl ?_
      refine g_get (v := .ref (r 3 2)) (T := TX1) (ref := "ChiefGrades$Grader") K hin_X1 4 rfl rfl 2 (by decide) u_289 (Or.inl rfl) rfl dX1_rank_27 ?_
      refine g_iload_n K dX1_rank_30 rfl 3 rfl ?_
      obtain ⟨b_4, h⟩ := gi_none h
      refine g_iald (f := (gA 2)) K 38 rfl (ginb_in b_4) dX1_rank_31 ?_
      obtain ⟨b_5, h⟩ := gi_none h
      refine g_iald (f := (gA 1)) K 37 rfl (ginb_in b_5) dX1_rank_32 ?_
      refine g_aload_n K dX1_rank_33 rfl 0 rfl ?_
      refine g_get (v := .ref (r 3 1)) (T := TX1) (ref := "ChiefGrades$Grader") K hin_X1 4 rfl rfl 1 (by decide) u_288 (Or.inl rfl) rfl dX1_rank_34 ?_
      refine g_aload_n K dX1_rank_37 rfl 0 rfl ?_
      refine g_get (v := .ref (r 3 2)) (T := TX1) (ref := "ChiefGrades$Grader") K hin_X1 4 rfl rfl 2 (by decide) u_289 (Or.inl rfl) rfl dX1_rank_38 ?_
      refine g_iload_n K dX1_rank_41 rfl 1 rfl ?_
      obtain ⟨b_6, h⟩ := gi_none h
      refine g_iald (f := (gA 2)) K 38 rfl (ginb_in b_6) dX1_rank_42 ?_
      obtain ⟨b_7, h⟩ := gi_none h
      refine g_iald (f := (gA 1)) K 37 rfl (ginb_in b_7) dX1_rank_43 ?_
      obtain ⟨ht9, hf9⟩ := gi_br h; clear h
      refine g_icmp_ge (tgt := 51) K dX1_rank_44 (by decide) (fun qh => ?_) (fun qh => ?_)
      · have h := ht9 qh; clear ht9 hf9
        refine g_iconst (v := 0) K dX1_rank_51 (by decide) ?_
        exact wX1_rank_52 (C0 := C0) (h0 := h0) (C1 := C1) (h1 := h1) (C2 := C2) (h2 := h2) (gs0 := gs0) (tb0 := tb0) (tA0 := tA0) (bf0 := bf0) (hi0 := hi0) hF K hlt hRm hret hk2 ih ga3 x1 x2 x3 0 h
      · have h := hf9 qh; clear ht9 hf9
        refine g_iconst (v := 1) K dX1_rank_47 (by decide) ?_
        refine g_goto (tgt := 52) K dX1_rank_48 (by decide) ?_
        exact wX1_rank_52 (C0 := C0) (h0 := h0) (C1 := C1) (h1 := h1) (C2 := C2) (h2 := h2) (gs0 := gs0) (tb0 := tb0) (tA0 := tA0) (bf0 := bf0) (hi0 := hi0) hF K hlt hRm hret hk2 ih ga3 x1 x2 x3 1 h

set_option maxHeartbeats 4000000 in
set_option maxRecDepth 100000 in
theorem wX1_rank_2 {Γ : gT} {q : Nat → Nat} {r : Nat → Nat → Nat} {F : gF} (hF : gFz (g_E Γ) F) {o0 : Nat → Int32} {A0 : Nat → Nat → Int32} {C0 : Nat → Option Nat} {h0 : Nat} {o1 : Nat → Int32} {A1 : Nat → Nat → Int32} {C1 : Nat → Option Nat} {h1 : Nat} {o2 : Nat → Int32} {A2 : Nat → Nat → Int32} {C2 : Nat → Option Nat} {h2 : Nat} {gs0 : Int32} {gA : Nat → Nat → Int32} {tb0 : Int32} {tA0 bf0 : Nat → Int32} {hi0 : Int32} (K : gOK Γ cX1_rank gU RX1) (hlt : ∀ i, i < 6 → i < g_n Γ) (hRm : g_R Γ = ({ frames := 4, cells := 0, slots := 0, locals := 150 } : Room)) {res : ((Nat → Int32))} (hret : ∀ (pc : Nat) (L : List (Nat × Value)) (w : va_W), decode cX1_rank pc = .ok (.return_, 1) → (w = cw (g_E Γ) q r (gpl F) o0 A0 C0 h0 o1 A1 C1 h1 o2 A2 C2 h2 gs0 (gu gA 3 res) tb0 tA0 bf0 hi0) → gGO Γ 0 0 pc L [] w) : ∀ (n : Nat) (ga3 : (Nat → Int32)) (x1 : Int32), pX1_rank_2 gs0 (gA 1) (gA 2) n ga3 x1 = some res → gGO Γ 0 0 2 [(0, .ref (q 3)), (1, .int x1)] [] (cw (g_E Γ) q r (gpl F) o0 A0 C0 h0 o1 A1 C1 h1 o2 A2 C2 h2 gs0 (gu gA 3 ga3) tb0 tA0 bf0 hi0) := by
  intro n
  induction n with
  | zero => intro _ _ h; cases h
  | succ n ih =>
    intro ga3 x1 h
    simp only [pX1_rank_2] at h
    refine g_iload_n K dX1_rank_2 rfl 1 rfl ?_
    refine g_aload_n K dX1_rank_3 rfl 0 rfl ?_
    refine g_get (v := .int gs0) (T := TX1) (ref := "ChiefGrades$Grader") K hin_X1 4 rfl rfl 4 (by decide) u_291 (Or.inl rfl) rfl dX1_rank_4 ?_
    obtain ⟨ht9, hf9⟩ := gi_br h; clear h
    refine g_icmp_ge (tgt := 128) K dX1_rank_7 (by decide) (fun qh => ?_) (fun qh => ?_)
    · have h := ht9 qh; clear ht9 hf9
      obtain rfl := Option.some.inj h
      exact hret _ _ _ dX1_rank_128 rfl
    · have h := hf9 qh; clear ht9 hf9
      refine g_iconst (v := 0) K dX1_rank_10 (by decide) ?_
      refine g_istore_n (L' := [(2, .int 0), (0, .ref (q 3)), (1, .int x1)]) K dX1_rank_11 rfl (hlt _ (by decide)) rfl ?_
      refine g_iconst (v := 0) K dX1_rank_12 (by decide) ?_
      refine g_istore_n (L' := [(3, .int 0), (2, .int 0), (0, .ref (q 3)), (1, .int x1)]) K dX1_rank_13 rfl (hlt _ (by decide)) rfl ?_
      refine g_sub (L' := [(0, .ref (q 3)), (1, .int x1), (2, .int 0), (3, .int 0)]) [2, 3, 1, 0] rfl ?_
      exact wX1_rank_14 (C0 := C0) (h0 := h0) (C1 := C1) (h1 := h1) (C2 := C2) (h2 := h2) (gs0 := gs0) (tb0 := tb0) (tA0 := tA0) (bf0 := bf0) (hi0 := hi0) hF K hlt hRm hret ih 1000 ga3 x1 0 0 h

set_option maxHeartbeats 4000000 in
set_option maxRecDepth 100000 in
theorem wX1_rank {Γ : gT} {q : Nat → Nat} {r : Nat → Nat → Nat} {F : gF} (hF : gFz (g_E Γ) F) {o0 : Nat → Int32} {A0 : Nat → Nat → Int32} {C0 : Nat → Option Nat} {h0 : Nat} {o1 : Nat → Int32} {A1 : Nat → Nat → Int32} {C1 : Nat → Option Nat} {h1 : Nat} {o2 : Nat → Int32} {A2 : Nat → Nat → Int32} {C2 : Nat → Option Nat} {h2 : Nat} {gs0 : Int32} {gA : Nat → Nat → Int32} {tb0 : Int32} {tA0 bf0 : Nat → Int32} {hi0 : Int32} (K : gOK Γ cX1_rank gU RX1) (hlt : ∀ i, i < 6 → i < g_n Γ) (hRm : g_R Γ = ({ frames := 4, cells := 0, slots := 0, locals := 150 } : Room)) {res : ((Nat → Int32))} (hret : ∀ (pc : Nat) (L : List (Nat × Value)) (w : va_W), decode cX1_rank pc = .ok (.return_, 1) → (w = cw (g_E Γ) q r (gpl F) o0 A0 C0 h0 o1 A1 C1 h1 o2 A2 C2 h2 gs0 (gu gA 3 res) tb0 tA0 bf0 hi0) → gGO Γ 0 0 pc L [] w) (ga3 : (Nat → Int32)) (h : pX1_rank gs0 (gA 1) (gA 2) ga3 = some res) : gGO Γ 0 0 0 [(0, .ref (q 3))] [] (cw (g_E Γ) q r (gpl F) o0 A0 C0 h0 o1 A1 C1 h1 o2 A2 C2 h2 gs0 (gu gA 3 ga3) tb0 tA0 bf0 hi0) := by
    unfold pX1_rank at h
    refine g_iconst (v := 0) K dX1_rank_0 (by decide) ?_
    refine g_istore_n (L' := [(1, .int 0), (0, .ref (q 3))]) K dX1_rank_1 rfl (hlt _ (by decide)) rfl ?_
    refine g_sub (L' := [(0, .ref (q 3)), (1, .int 0)]) [1, 0] rfl ?_
    exact wX1_rank_2 (C0 := C0) (h0 := h0) (C1 := C1) (h1 := h1) (C2 := C2) (h2 := h2) (gs0 := gs0) (tb0 := tb0) (tA0 := tA0) (bf0 := bf0) (hi0 := hi0) hF K hlt hRm hret 1000 ga3 0 h

set_option maxRecDepth 100000 in
theorem ctX1_rank {E : gE} {q : Nat → Nat} {r : Nat → Nat → Nat} {F : gF} (hF : gFz E F) (o0 : Nat → Int32) (A0 : Nat → Nat → Int32) (C0 : Nat → Option Nat) (h0 : Nat) (o1 : Nat → Int32) (A1 : Nat → Nat → Int32) (C1 : Nat → Option Nat) (h1 : Nat) (o2 : Nat → Int32) (A2 : Nat → Nat → Int32) (C2 : Nat → Option Nat) (h2 : Nat) (gs0 : Int32) (gA : Nat → Nat → Int32) (tb0 : Int32) (tA0 bf0 : Nat → Int32) (hi0 : Int32) {res : ((Nat → Int32))} (h : pX1_rank gs0 (gA 1) (gA 2) (gA 3) = some res) : gMv yX1_rank (.code yX1_rank cX1_rank 6 none :: gU) ({ frames := 4, cells := 0, slots := 0, locals := 150 } : Room) 0 0 E [.ref (q 3)] (cw E q r (gpl F) o0 A0 C0 h0 o1 A1 C1 h1 o2 A2 C2 h2 gs0 gA tb0 tA0 bf0 hi0) (fun w => w = cw E q r (gpl F) o0 A0 C0 h0 o1 A1 C1 h1 o2 A2 C2 h2 gs0 (gu gA 3 res) tb0 tA0 bf0 hi0) := by
  refine g_met_v (by decide +kernel) (Nat.le_of_ble_eq_true rfl) (fun Γ K hn hE hRm _ hret => ?_)
  subst hE
  have hlt : ∀ i, i < 6 → i < g_n Γ := fun i q => by rw [hn]; exact q
  refine g_ws (ws' := cw (g_E Γ) q r (gpl F) o0 A0 C0 h0 o1 A1 C1 h1 o2 A2 C2 h2 gs0 (gu gA 3 (gA 3)) tb0 tA0 bf0 hi0) rfl ?_
  refine g_sub (L' := [(0, .ref (q 3))]) [0] rfl ?_
  exact wX1_rank (C0 := C0) (h0 := h0) (C1 := C1) (h1 := h1) (C2 := C2) (h2 := h2) (gs0 := gs0) (tb0 := tb0) (tA0 := tA0) (bf0 := bf0) (hi0 := hi0) hF K hlt hRm hret (gA 3) h

set_option maxHeartbeats 4000000 in
set_option maxRecDepth 100000 in
theorem wX0_lineUp_k0 {Γ : gT} {q : Nat → Nat} {r : Nat → Nat → Nat} {F : gF} (hF : gFz (g_E Γ) F) {o0 : Nat → Int32} {A0 : Nat → Nat → Int32} {C0 : Nat → Option Nat} {h0 : Nat} {o1 : Nat → Int32} {A1 : Nat → Nat → Int32} {C1 : Nat → Option Nat} {h1 : Nat} {o2 : Nat → Int32} {A2 : Nat → Nat → Int32} {C2 : Nat → Option Nat} {h2 : Nat} {gs0 : Int32} {gA : Nat → Nat → Int32} {tb0 : Int32} {tA0 bf0 : Nat → Int32} {hi0 : Int32} {b0 : Nat} (hb : chv F b0 = true) (hk0 : ck F b0 = 0) (K : gOK Γ cX0_lineUp gU RX0) (hlt : ∀ i, i < 5 → i < g_n Γ) (hRm : g_R Γ = ({ frames := 4, cells := 0, slots := 0, locals := 150 } : Room)) {res : Unit} (hret : ∀ (pc : Nat) (L : List (Nat × Value)) (w : va_W), decode cX0_lineUp pc = .ok (.return_, 1) → (w = cw (g_E Γ) q r (gpl F) o0 A0 C0 h0 o1 A1 C1 h1 o2 A2 C2 h2 gs0 gA tb0 tA0 bf0 hi0) → gGO Γ 0 0 pc L [] w) (x2 : Int32) (x3 : Int32) (h : pX0_lineUp_k0 x2 x3 = some res) : gGO Γ 0 0 0 [(0, .ref b0), (1, .ref (r 3 2)), (2, .int x2), (3, .int x3), (4, .ref (r 3 3))] [] (cw (g_E Γ) q r (gpl F) o0 A0 C0 h0 o1 A1 C1 h1 o2 A2 C2 h2 gs0 gA tb0 tA0 bf0 hi0) := by
    unfold pX0_lineUp_k0 at h
    obtain rfl := Option.some.inj h
    exact hret _ _ _ dX0_lineUp_0 rfl

set_option maxRecDepth 100000 in
theorem ctX0_lineUp_k0 {E : gE} {q : Nat → Nat} {r : Nat → Nat → Nat} {F : gF} (hF : gFz E F) {b0 : Nat} (hb : chv F b0 = true) (hk0 : ck F b0 = 0) (o0 : Nat → Int32) (A0 : Nat → Nat → Int32) (C0 : Nat → Option Nat) (h0 : Nat) (o1 : Nat → Int32) (A1 : Nat → Nat → Int32) (C1 : Nat → Option Nat) (h1 : Nat) (o2 : Nat → Int32) (A2 : Nat → Nat → Int32) (C2 : Nat → Option Nat) (h2 : Nat) (gs0 : Int32) (gA : Nat → Nat → Int32) (tb0 : Int32) (tA0 bf0 : Nat → Int32) (hi0 : Int32) (x2 : Int32) (x3 : Int32) {res : Unit} (h : pX0_lineUp_k0 x2 x3 = some res) : gMv yX0_lineUp (.code yX0_lineUp cX0_lineUp 5 none :: gU) ({ frames := 4, cells := 0, slots := 0, locals := 150 } : Room) 0 0 E [.ref b0, .ref (r 3 2), .int x2, .int x3, .ref (r 3 3)] (cw E q r (gpl F) o0 A0 C0 h0 o1 A1 C1 h1 o2 A2 C2 h2 gs0 gA tb0 tA0 bf0 hi0) (fun w => w = cw E q r (gpl F) o0 A0 C0 h0 o1 A1 C1 h1 o2 A2 C2 h2 gs0 gA tb0 tA0 bf0 hi0) := by
  refine g_met_v (by decide +kernel) (Nat.le_of_ble_eq_true rfl) (fun Γ K hn hE hRm _ hret => ?_)
  subst hE
  have hlt : ∀ i, i < 5 → i < g_n Γ := fun i q => by rw [hn]; exact q
  refine g_sub (L' := [(0, .ref b0), (1, .ref (r 3 2)), (2, .int x2), (3, .int x3), (4, .ref (r 3 3))]) [0, 1, 2, 3, 4] rfl ?_
  exact wX0_lineUp_k0 (C0 := C0) (h0 := h0) (C1 := C1) (h1 := h1) (C2 := C2) (h2 := h2) (gs0 := gs0) (tb0 := tb0) (tA0 := tA0) (bf0 := bf0) (hi0 := hi0) hF hb hk0 K hlt hRm hret x2 x3 h

set_option maxHeartbeats 4000000 in
set_option maxRecDepth 100000 in
theorem wX0_lineUp_k1 {Γ : gT} {q : Nat → Nat} {r : Nat → Nat → Nat} {F : gF} (hF : gFz (g_E Γ) F) {o0 : Nat → Int32} {A0 : Nat → Nat → Int32} {C0 : Nat → Option Nat} {h0 : Nat} {o1 : Nat → Int32} {A1 : Nat → Nat → Int32} {C1 : Nat → Option Nat} {h1 : Nat} {o2 : Nat → Int32} {A2 : Nat → Nat → Int32} {C2 : Nat → Option Nat} {h2 : Nat} {gs0 : Int32} {gA : Nat → Nat → Int32} {tb0 : Int32} {tA0 bf0 : Nat → Int32} {hi0 : Int32} {b0 : Nat} (hb : chv F b0 = true) (hk0 : ck F b0 = 1) (K : gOK Γ cX0_lineUp gU RX0) (hlt : ∀ i, i < 5 → i < g_n Γ) (hRm : g_R Γ = ({ frames := 4, cells := 0, slots := 0, locals := 150 } : Room)) {res : Unit} (hret : ∀ (pc : Nat) (L : List (Nat × Value)) (w : va_W), decode cX0_lineUp pc = .ok (.return_, 1) → (w = cw (g_E Γ) q r (gpl F) o0 A0 C0 h0 o1 A1 C1 h1 o2 A2 C2 h2 gs0 gA tb0 tA0 bf0 hi0) → gGO Γ 0 0 pc L [] w) (x2 : Int32) (x3 : Int32) (h : pX0_lineUp_k1 x2 x3 = some res) : gGO Γ 0 0 0 [(0, .ref b0), (1, .ref (r 3 2)), (2, .int x2), (3, .int x3), (4, .ref (r 3 3))] [] (cw (g_E Γ) q r (gpl F) o0 A0 C0 h0 o1 A1 C1 h1 o2 A2 C2 h2 gs0 gA tb0 tA0 bf0 hi0) := by
    unfold pX0_lineUp_k1 at h
    obtain rfl := Option.some.inj h
    exact hret _ _ _ dX0_lineUp_0 rfl

set_option maxRecDepth 100000 in
theorem ctX0_lineUp_k1 {E : gE} {q : Nat → Nat} {r : Nat → Nat → Nat} {F : gF} (hF : gFz E F) {b0 : Nat} (hb : chv F b0 = true) (hk0 : ck F b0 = 1) (o0 : Nat → Int32) (A0 : Nat → Nat → Int32) (C0 : Nat → Option Nat) (h0 : Nat) (o1 : Nat → Int32) (A1 : Nat → Nat → Int32) (C1 : Nat → Option Nat) (h1 : Nat) (o2 : Nat → Int32) (A2 : Nat → Nat → Int32) (C2 : Nat → Option Nat) (h2 : Nat) (gs0 : Int32) (gA : Nat → Nat → Int32) (tb0 : Int32) (tA0 bf0 : Nat → Int32) (hi0 : Int32) (x2 : Int32) (x3 : Int32) {res : Unit} (h : pX0_lineUp_k1 x2 x3 = some res) : gMv yX0_lineUp (.code yX0_lineUp cX0_lineUp 5 none :: gU) ({ frames := 4, cells := 0, slots := 0, locals := 150 } : Room) 0 0 E [.ref b0, .ref (r 3 2), .int x2, .int x3, .ref (r 3 3)] (cw E q r (gpl F) o0 A0 C0 h0 o1 A1 C1 h1 o2 A2 C2 h2 gs0 gA tb0 tA0 bf0 hi0) (fun w => w = cw E q r (gpl F) o0 A0 C0 h0 o1 A1 C1 h1 o2 A2 C2 h2 gs0 gA tb0 tA0 bf0 hi0) := by
  refine g_met_v (by decide +kernel) (Nat.le_of_ble_eq_true rfl) (fun Γ K hn hE hRm _ hret => ?_)
  subst hE
  have hlt : ∀ i, i < 5 → i < g_n Γ := fun i q => by rw [hn]; exact q
  refine g_sub (L' := [(0, .ref b0), (1, .ref (r 3 2)), (2, .int x2), (3, .int x3), (4, .ref (r 3 3))]) [0, 1, 2, 3, 4] rfl ?_
  exact wX0_lineUp_k1 (C0 := C0) (h0 := h0) (C1 := C1) (h1 := h1) (C2 := C2) (h2 := h2) (gs0 := gs0) (tb0 := tb0) (tA0 := tA0) (bf0 := bf0) (hi0 := hi0) hF hb hk0 K hlt hRm hret x2 x3 h

set_option maxHeartbeats 4000000 in
set_option maxRecDepth 100000 in
theorem wX9_lineUp_k2_3 {Γ : gT} {q : Nat → Nat} {r : Nat → Nat → Nat} {F : gF} (hF : gFz (g_E Γ) F) {o0 : Nat → Int32} {A0 : Nat → Nat → Int32} {C0 : Nat → Option Nat} {h0 : Nat} {o1 : Nat → Int32} {A1 : Nat → Nat → Int32} {C1 : Nat → Option Nat} {h1 : Nat} {o2 : Nat → Int32} {A2 : Nat → Nat → Int32} {C2 : Nat → Option Nat} {h2 : Nat} {gs0 : Int32} {gA : Nat → Nat → Int32} {tb0 : Int32} {tA0 bf0 : Nat → Int32} {hi0 : Int32} {b0 : Nat} (hb : chv F b0 = true) (hk0 : ck F b0 = 2) (K : gOK Γ cX9_lineUp gU RX9) (hlt : ∀ i, i < 6 → i < g_n Γ) (hRm : g_R Γ = ({ frames := 4, cells := 0, slots := 0, locals := 150 } : Room)) {res : ((Nat → Int32))} (hret : ∀ (pc : Nat) (L : List (Nat × Value)) (w : va_W), decode cX9_lineUp pc = .ok (.return_, 1) → (w = cw (g_E Γ) q r (gpl F) o0 A0 C0 h0 o1 A1 C1 h1 o2 A2 C2 h2 gs0 (gu gA 3 res) tb0 tA0 bf0 hi0) → gGO Γ 0 0 pc L [] w) : ∀ (n : Nat) (ga3 : (Nat → Int32)) (x2 : Int32) (x3 : Int32) (x5 : Int32), pX9_lineUp_k2_3 (gA 2) n ga3 x2 x3 x5 = some res → gGO Γ 0 0 3 [(1, .ref (r 3 2)), (2, .int x2), (3, .int x3), (4, .ref (r 3 3)), (5, .int x5)] [] (cw (g_E Γ) q r (gpl F) o0 A0 C0 h0 o1 A1 C1 h1 o2 A2 C2 h2 gs0 (gu gA 3 ga3) tb0 tA0 bf0 hi0) := by
  intro n
  induction n with
  | zero => intro _ _ _ _ h; cases h
  | succ n ih =>
    intro ga3 x2 x3 x5 h
    simp only [pX9_lineUp_k2_3] at h
    refine g_iload K dX9_lineUp_3 4 rfl ?_
    refine g_iload_n K dX9_lineUp_5 rfl 1 rfl ?_
    obtain ⟨ht9, hf9⟩ := gi_br h; clear h
    refine g_icmp_ge (tgt := 28) K dX9_lineUp_6 (by decide) (fun qh => ?_) (fun qh => ?_)
    · have h := ht9 qh; clear ht9 hf9
      obtain rfl := Option.some.inj h
      exact hret _ _ _ dX9_lineUp_28 rfl
    · have h := hf9 qh; clear ht9 hf9
      refine g_aload K dX9_lineUp_9 3 rfl ?_
      refine g_iload K dX9_lineUp_11 4 rfl ?_
      refine g_aload_n K dX9_lineUp_13 rfl 0 rfl ?_
      refine g_iload_n K dX9_lineUp_14 rfl 2 rfl ?_
      refine g_iload K dX9_lineUp_15 4 rfl ?_
      refine g_iadd K dX9_lineUp_17 ?_
      refine g_iload_n K dX9_lineUp_18 rfl 1 rfl ?_
      obtain ⟨c_1, h⟩ := gi_none h
      refine g_irem K dX9_lineUp_19 c_1 ?_
      obtain ⟨b_2, h⟩ := gi_none h
      refine g_iald (f := (gA 2)) K 38 rfl (ginb_in b_2) dX9_lineUp_20 ?_
      obtain ⟨b_3, h⟩ := gi_none h
      obtain ⟨f_4, ef_4, h⟩ := gi_nm h
      refine g_iast (f := ga3) (ws' := cw (g_E Γ) q r (gpl F) o0 A0 C0 h0 o1 A1 C1 h1 o2 A2 C2 h2 gs0 (gu gA 3 f_4) tb0 tA0 bf0 hi0) K 39 rfl (ginb_in b_3) dX9_lineUp_21 (by rw [ef_4]; rfl) ?_
      refine g_iinc (v := (x5 + 1)) (L' := [(5, .int (x5 + 1)), (1, .ref (r 3 2)), (2, .int x2), (3, .int x3), (4, .ref (r 3 3))]) K dX9_lineUp_22 4 rfl rfl (hlt _ (by decide)) rfl ?_
      refine g_goto (tgt := 3) K dX9_lineUp_25 (by decide) ?_
      refine g_sub (L' := [(1, .ref (r 3 2)), (2, .int x2), (3, .int x3), (4, .ref (r 3 3)), (5, .int (x5 + 1))]) [1, 2, 3, 4, 0] rfl ?_
      exact ih f_4 x2 x3 (x5 + 1) h

set_option maxHeartbeats 4000000 in
set_option maxRecDepth 100000 in
theorem wX9_lineUp_k2 {Γ : gT} {q : Nat → Nat} {r : Nat → Nat → Nat} {F : gF} (hF : gFz (g_E Γ) F) {o0 : Nat → Int32} {A0 : Nat → Nat → Int32} {C0 : Nat → Option Nat} {h0 : Nat} {o1 : Nat → Int32} {A1 : Nat → Nat → Int32} {C1 : Nat → Option Nat} {h1 : Nat} {o2 : Nat → Int32} {A2 : Nat → Nat → Int32} {C2 : Nat → Option Nat} {h2 : Nat} {gs0 : Int32} {gA : Nat → Nat → Int32} {tb0 : Int32} {tA0 bf0 : Nat → Int32} {hi0 : Int32} {b0 : Nat} (hb : chv F b0 = true) (hk0 : ck F b0 = 2) (K : gOK Γ cX9_lineUp gU RX9) (hlt : ∀ i, i < 6 → i < g_n Γ) (hRm : g_R Γ = ({ frames := 4, cells := 0, slots := 0, locals := 150 } : Room)) {res : ((Nat → Int32))} (hret : ∀ (pc : Nat) (L : List (Nat × Value)) (w : va_W), decode cX9_lineUp pc = .ok (.return_, 1) → (w = cw (g_E Γ) q r (gpl F) o0 A0 C0 h0 o1 A1 C1 h1 o2 A2 C2 h2 gs0 (gu gA 3 res) tb0 tA0 bf0 hi0) → gGO Γ 0 0 pc L [] w) (ga3 : (Nat → Int32)) (x2 : Int32) (x3 : Int32) (h : pX9_lineUp_k2 (gA 2) ga3 x2 x3 = some res) : gGO Γ 0 0 0 [(0, .ref b0), (1, .ref (r 3 2)), (2, .int x2), (3, .int x3), (4, .ref (r 3 3))] [] (cw (g_E Γ) q r (gpl F) o0 A0 C0 h0 o1 A1 C1 h1 o2 A2 C2 h2 gs0 (gu gA 3 ga3) tb0 tA0 bf0 hi0) := by
    unfold pX9_lineUp_k2 at h
    refine g_iconst (v := 0) K dX9_lineUp_0 (by decide) ?_
    refine g_istore (L' := [(5, .int 0), (0, .ref b0), (1, .ref (r 3 2)), (2, .int x2), (3, .int x3), (4, .ref (r 3 3))]) K dX9_lineUp_1 (hlt _ (by decide)) rfl ?_
    refine g_sub (L' := [(1, .ref (r 3 2)), (2, .int x2), (3, .int x3), (4, .ref (r 3 3)), (5, .int 0)]) [2, 3, 4, 5, 0] rfl ?_
    exact wX9_lineUp_k2_3 (C0 := C0) (h0 := h0) (C1 := C1) (h1 := h1) (C2 := C2) (h2 := h2) (gs0 := gs0) (tb0 := tb0) (tA0 := tA0) (bf0 := bf0) (hi0 := hi0) hF hb hk0 K hlt hRm hret 1000 ga3 x2 x3 0 h

set_option maxRecDepth 100000 in
theorem ctX9_lineUp_k2 {E : gE} {q : Nat → Nat} {r : Nat → Nat → Nat} {F : gF} (hF : gFz E F) {b0 : Nat} (hb : chv F b0 = true) (hk0 : ck F b0 = 2) (o0 : Nat → Int32) (A0 : Nat → Nat → Int32) (C0 : Nat → Option Nat) (h0 : Nat) (o1 : Nat → Int32) (A1 : Nat → Nat → Int32) (C1 : Nat → Option Nat) (h1 : Nat) (o2 : Nat → Int32) (A2 : Nat → Nat → Int32) (C2 : Nat → Option Nat) (h2 : Nat) (gs0 : Int32) (gA : Nat → Nat → Int32) (tb0 : Int32) (tA0 bf0 : Nat → Int32) (hi0 : Int32) (x2 : Int32) (x3 : Int32) {res : ((Nat → Int32))} (h : pX9_lineUp_k2 (gA 2) (gA 3) x2 x3 = some res) : gMv yX9_lineUp (.code yX9_lineUp cX9_lineUp 6 none :: gU) ({ frames := 4, cells := 0, slots := 0, locals := 150 } : Room) 0 0 E [.ref b0, .ref (r 3 2), .int x2, .int x3, .ref (r 3 3)] (cw E q r (gpl F) o0 A0 C0 h0 o1 A1 C1 h1 o2 A2 C2 h2 gs0 gA tb0 tA0 bf0 hi0) (fun w => w = cw E q r (gpl F) o0 A0 C0 h0 o1 A1 C1 h1 o2 A2 C2 h2 gs0 (gu gA 3 res) tb0 tA0 bf0 hi0) := by
  refine g_met_v (by decide +kernel) (Nat.le_of_ble_eq_true rfl) (fun Γ K hn hE hRm _ hret => ?_)
  subst hE
  have hlt : ∀ i, i < 6 → i < g_n Γ := fun i q => by rw [hn]; exact q
  refine g_ws (ws' := cw (g_E Γ) q r (gpl F) o0 A0 C0 h0 o1 A1 C1 h1 o2 A2 C2 h2 gs0 (gu gA 3 (gA 3)) tb0 tA0 bf0 hi0) rfl ?_
  refine g_sub (L' := [(0, .ref b0), (1, .ref (r 3 2)), (2, .int x2), (3, .int x3), (4, .ref (r 3 3))]) [0, 1, 2, 3, 4] rfl ?_
  exact wX9_lineUp_k2 (C0 := C0) (h0 := h0) (C1 := C1) (h1 := h1) (C2 := C2) (h2 := h2) (gs0 := gs0) (tb0 := tb0) (tA0 := tA0) (bf0 := bf0) (hi0 := hi0) hF hb hk0 K hlt hRm hret (gA 3) x2 x3 h

set_option maxHeartbeats 4000000 in
set_option maxRecDepth 100000 in
theorem wX0_lineUp_k3 {Γ : gT} {q : Nat → Nat} {r : Nat → Nat → Nat} {F : gF} (hF : gFz (g_E Γ) F) {o0 : Nat → Int32} {A0 : Nat → Nat → Int32} {C0 : Nat → Option Nat} {h0 : Nat} {o1 : Nat → Int32} {A1 : Nat → Nat → Int32} {C1 : Nat → Option Nat} {h1 : Nat} {o2 : Nat → Int32} {A2 : Nat → Nat → Int32} {C2 : Nat → Option Nat} {h2 : Nat} {gs0 : Int32} {gA : Nat → Nat → Int32} {tb0 : Int32} {tA0 bf0 : Nat → Int32} {hi0 : Int32} {b0 : Nat} (hb : chv F b0 = true) (hk0 : ck F b0 = 3) (K : gOK Γ cX0_lineUp gU RX0) (hlt : ∀ i, i < 5 → i < g_n Γ) (hRm : g_R Γ = ({ frames := 4, cells := 0, slots := 0, locals := 150 } : Room)) {res : Unit} (hret : ∀ (pc : Nat) (L : List (Nat × Value)) (w : va_W), decode cX0_lineUp pc = .ok (.return_, 1) → (w = cw (g_E Γ) q r (gpl F) o0 A0 C0 h0 o1 A1 C1 h1 o2 A2 C2 h2 gs0 gA tb0 tA0 bf0 hi0) → gGO Γ 0 0 pc L [] w) (x2 : Int32) (x3 : Int32) (h : pX0_lineUp_k3 x2 x3 = some res) : gGO Γ 0 0 0 [(0, .ref b0), (1, .ref (r 3 2)), (2, .int x2), (3, .int x3), (4, .ref (r 3 3))] [] (cw (g_E Γ) q r (gpl F) o0 A0 C0 h0 o1 A1 C1 h1 o2 A2 C2 h2 gs0 gA tb0 tA0 bf0 hi0) := by
    unfold pX0_lineUp_k3 at h
    obtain rfl := Option.some.inj h
    exact hret _ _ _ dX0_lineUp_0 rfl

set_option maxRecDepth 100000 in
theorem ctX0_lineUp_k3 {E : gE} {q : Nat → Nat} {r : Nat → Nat → Nat} {F : gF} (hF : gFz E F) {b0 : Nat} (hb : chv F b0 = true) (hk0 : ck F b0 = 3) (o0 : Nat → Int32) (A0 : Nat → Nat → Int32) (C0 : Nat → Option Nat) (h0 : Nat) (o1 : Nat → Int32) (A1 : Nat → Nat → Int32) (C1 : Nat → Option Nat) (h1 : Nat) (o2 : Nat → Int32) (A2 : Nat → Nat → Int32) (C2 : Nat → Option Nat) (h2 : Nat) (gs0 : Int32) (gA : Nat → Nat → Int32) (tb0 : Int32) (tA0 bf0 : Nat → Int32) (hi0 : Int32) (x2 : Int32) (x3 : Int32) {res : Unit} (h : pX0_lineUp_k3 x2 x3 = some res) : gMv yX0_lineUp (.code yX0_lineUp cX0_lineUp 5 none :: gU) ({ frames := 4, cells := 0, slots := 0, locals := 150 } : Room) 0 0 E [.ref b0, .ref (r 3 2), .int x2, .int x3, .ref (r 3 3)] (cw E q r (gpl F) o0 A0 C0 h0 o1 A1 C1 h1 o2 A2 C2 h2 gs0 gA tb0 tA0 bf0 hi0) (fun w => w = cw E q r (gpl F) o0 A0 C0 h0 o1 A1 C1 h1 o2 A2 C2 h2 gs0 gA tb0 tA0 bf0 hi0) := by
  refine g_met_v (by decide +kernel) (Nat.le_of_ble_eq_true rfl) (fun Γ K hn hE hRm _ hret => ?_)
  subst hE
  have hlt : ∀ i, i < 5 → i < g_n Γ := fun i q => by rw [hn]; exact q
  refine g_sub (L' := [(0, .ref b0), (1, .ref (r 3 2)), (2, .int x2), (3, .int x3), (4, .ref (r 3 3))]) [0, 1, 2, 3, 4] rfl ?_
  exact wX0_lineUp_k3 (C0 := C0) (h0 := h0) (C1 := C1) (h1 := h1) (C2 := C2) (h2 := h2) (gs0 := gs0) (tb0 := tb0) (tA0 := tA0) (bf0 := bf0) (hi0 := hi0) hF hb hk0 K hlt hRm hret x2 x3 h

set_option maxHeartbeats 4000000 in
set_option maxRecDepth 100000 in
theorem wX0_lineUp_k4 {Γ : gT} {q : Nat → Nat} {r : Nat → Nat → Nat} {F : gF} (hF : gFz (g_E Γ) F) {o0 : Nat → Int32} {A0 : Nat → Nat → Int32} {C0 : Nat → Option Nat} {h0 : Nat} {o1 : Nat → Int32} {A1 : Nat → Nat → Int32} {C1 : Nat → Option Nat} {h1 : Nat} {o2 : Nat → Int32} {A2 : Nat → Nat → Int32} {C2 : Nat → Option Nat} {h2 : Nat} {gs0 : Int32} {gA : Nat → Nat → Int32} {tb0 : Int32} {tA0 bf0 : Nat → Int32} {hi0 : Int32} {b0 : Nat} (hb : chv F b0 = true) (hk0 : ck F b0 = 4) (K : gOK Γ cX0_lineUp gU RX0) (hlt : ∀ i, i < 5 → i < g_n Γ) (hRm : g_R Γ = ({ frames := 4, cells := 0, slots := 0, locals := 150 } : Room)) {res : Unit} (hret : ∀ (pc : Nat) (L : List (Nat × Value)) (w : va_W), decode cX0_lineUp pc = .ok (.return_, 1) → (w = cw (g_E Γ) q r (gpl F) o0 A0 C0 h0 o1 A1 C1 h1 o2 A2 C2 h2 gs0 gA tb0 tA0 bf0 hi0) → gGO Γ 0 0 pc L [] w) (x2 : Int32) (x3 : Int32) (h : pX0_lineUp_k4 x2 x3 = some res) : gGO Γ 0 0 0 [(0, .ref b0), (1, .ref (r 3 2)), (2, .int x2), (3, .int x3), (4, .ref (r 3 3))] [] (cw (g_E Γ) q r (gpl F) o0 A0 C0 h0 o1 A1 C1 h1 o2 A2 C2 h2 gs0 gA tb0 tA0 bf0 hi0) := by
    unfold pX0_lineUp_k4 at h
    obtain rfl := Option.some.inj h
    exact hret _ _ _ dX0_lineUp_0 rfl

set_option maxRecDepth 100000 in
theorem ctX0_lineUp_k4 {E : gE} {q : Nat → Nat} {r : Nat → Nat → Nat} {F : gF} (hF : gFz E F) {b0 : Nat} (hb : chv F b0 = true) (hk0 : ck F b0 = 4) (o0 : Nat → Int32) (A0 : Nat → Nat → Int32) (C0 : Nat → Option Nat) (h0 : Nat) (o1 : Nat → Int32) (A1 : Nat → Nat → Int32) (C1 : Nat → Option Nat) (h1 : Nat) (o2 : Nat → Int32) (A2 : Nat → Nat → Int32) (C2 : Nat → Option Nat) (h2 : Nat) (gs0 : Int32) (gA : Nat → Nat → Int32) (tb0 : Int32) (tA0 bf0 : Nat → Int32) (hi0 : Int32) (x2 : Int32) (x3 : Int32) {res : Unit} (h : pX0_lineUp_k4 x2 x3 = some res) : gMv yX0_lineUp (.code yX0_lineUp cX0_lineUp 5 none :: gU) ({ frames := 4, cells := 0, slots := 0, locals := 150 } : Room) 0 0 E [.ref b0, .ref (r 3 2), .int x2, .int x3, .ref (r 3 3)] (cw E q r (gpl F) o0 A0 C0 h0 o1 A1 C1 h1 o2 A2 C2 h2 gs0 gA tb0 tA0 bf0 hi0) (fun w => w = cw E q r (gpl F) o0 A0 C0 h0 o1 A1 C1 h1 o2 A2 C2 h2 gs0 gA tb0 tA0 bf0 hi0) := by
  refine g_met_v (by decide +kernel) (Nat.le_of_ble_eq_true rfl) (fun Γ K hn hE hRm _ hret => ?_)
  subst hE
  have hlt : ∀ i, i < 5 → i < g_n Γ := fun i q => by rw [hn]; exact q
  refine g_sub (L' := [(0, .ref b0), (1, .ref (r 3 2)), (2, .int x2), (3, .int x3), (4, .ref (r 3 3))]) [0, 1, 2, 3, 4] rfl ?_
  exact wX0_lineUp_k4 (C0 := C0) (h0 := h0) (C1 := C1) (h1 := h1) (C2 := C2) (h2 := h2) (gs0 := gs0) (tb0 := tb0) (tA0 := tA0) (bf0 := bf0) (hi0 := hi0) hF hb hk0 K hlt hRm hret x2 x3 h

set_option maxHeartbeats 4000000 in
set_option maxRecDepth 100000 in
theorem wX9_lineUp_k5_3 {Γ : gT} {q : Nat → Nat} {r : Nat → Nat → Nat} {F : gF} (hF : gFz (g_E Γ) F) {o0 : Nat → Int32} {A0 : Nat → Nat → Int32} {C0 : Nat → Option Nat} {h0 : Nat} {o1 : Nat → Int32} {A1 : Nat → Nat → Int32} {C1 : Nat → Option Nat} {h1 : Nat} {o2 : Nat → Int32} {A2 : Nat → Nat → Int32} {C2 : Nat → Option Nat} {h2 : Nat} {gs0 : Int32} {gA : Nat → Nat → Int32} {tb0 : Int32} {tA0 bf0 : Nat → Int32} {hi0 : Int32} {b0 : Nat} (hb : chv F b0 = true) (hk0 : ck F b0 = 5) (K : gOK Γ cX9_lineUp gU RX9) (hlt : ∀ i, i < 6 → i < g_n Γ) (hRm : g_R Γ = ({ frames := 4, cells := 0, slots := 0, locals := 150 } : Room)) {res : ((Nat → Int32))} (hret : ∀ (pc : Nat) (L : List (Nat × Value)) (w : va_W), decode cX9_lineUp pc = .ok (.return_, 1) → (w = cw (g_E Γ) q r (gpl F) o0 A0 C0 h0 o1 A1 C1 h1 o2 A2 C2 h2 gs0 (gu gA 3 res) tb0 tA0 bf0 hi0) → gGO Γ 0 0 pc L [] w) : ∀ (n : Nat) (ga3 : (Nat → Int32)) (x2 : Int32) (x3 : Int32) (x5 : Int32), pX9_lineUp_k5_3 (gA 2) n ga3 x2 x3 x5 = some res → gGO Γ 0 0 3 [(1, .ref (r 3 2)), (2, .int x2), (3, .int x3), (4, .ref (r 3 3)), (5, .int x5)] [] (cw (g_E Γ) q r (gpl F) o0 A0 C0 h0 o1 A1 C1 h1 o2 A2 C2 h2 gs0 (gu gA 3 ga3) tb0 tA0 bf0 hi0) := by
  intro n
  induction n with
  | zero => intro _ _ _ _ h; cases h
  | succ n ih =>
    intro ga3 x2 x3 x5 h
    simp only [pX9_lineUp_k5_3] at h
    refine g_iload K dX9_lineUp_3 4 rfl ?_
    refine g_iload_n K dX9_lineUp_5 rfl 1 rfl ?_
    obtain ⟨ht9, hf9⟩ := gi_br h; clear h
    refine g_icmp_ge (tgt := 28) K dX9_lineUp_6 (by decide) (fun qh => ?_) (fun qh => ?_)
    · have h := ht9 qh; clear ht9 hf9
      obtain rfl := Option.some.inj h
      exact hret _ _ _ dX9_lineUp_28 rfl
    · have h := hf9 qh; clear ht9 hf9
      refine g_aload K dX9_lineUp_9 3 rfl ?_
      refine g_iload K dX9_lineUp_11 4 rfl ?_
      refine g_aload_n K dX9_lineUp_13 rfl 0 rfl ?_
      refine g_iload_n K dX9_lineUp_14 rfl 2 rfl ?_
      refine g_iload K dX9_lineUp_15 4 rfl ?_
      refine g_iadd K dX9_lineUp_17 ?_
      refine g_iload_n K dX9_lineUp_18 rfl 1 rfl ?_
      obtain ⟨c_1, h⟩ := gi_none h
      refine g_irem K dX9_lineUp_19 c_1 ?_
      obtain ⟨b_2, h⟩ := gi_none h
      refine g_iald (f := (gA 2)) K 38 rfl (ginb_in b_2) dX9_lineUp_20 ?_
      obtain ⟨b_3, h⟩ := gi_none h
      obtain ⟨f_4, ef_4, h⟩ := gi_nm h
      refine g_iast (f := ga3) (ws' := cw (g_E Γ) q r (gpl F) o0 A0 C0 h0 o1 A1 C1 h1 o2 A2 C2 h2 gs0 (gu gA 3 f_4) tb0 tA0 bf0 hi0) K 39 rfl (ginb_in b_3) dX9_lineUp_21 (by rw [ef_4]; rfl) ?_
      refine g_iinc (v := (x5 + 1)) (L' := [(5, .int (x5 + 1)), (1, .ref (r 3 2)), (2, .int x2), (3, .int x3), (4, .ref (r 3 3))]) K dX9_lineUp_22 4 rfl rfl (hlt _ (by decide)) rfl ?_
      refine g_goto (tgt := 3) K dX9_lineUp_25 (by decide) ?_
      refine g_sub (L' := [(1, .ref (r 3 2)), (2, .int x2), (3, .int x3), (4, .ref (r 3 3)), (5, .int (x5 + 1))]) [1, 2, 3, 4, 0] rfl ?_
      exact ih f_4 x2 x3 (x5 + 1) h

set_option maxHeartbeats 4000000 in
set_option maxRecDepth 100000 in
theorem wX9_lineUp_k5 {Γ : gT} {q : Nat → Nat} {r : Nat → Nat → Nat} {F : gF} (hF : gFz (g_E Γ) F) {o0 : Nat → Int32} {A0 : Nat → Nat → Int32} {C0 : Nat → Option Nat} {h0 : Nat} {o1 : Nat → Int32} {A1 : Nat → Nat → Int32} {C1 : Nat → Option Nat} {h1 : Nat} {o2 : Nat → Int32} {A2 : Nat → Nat → Int32} {C2 : Nat → Option Nat} {h2 : Nat} {gs0 : Int32} {gA : Nat → Nat → Int32} {tb0 : Int32} {tA0 bf0 : Nat → Int32} {hi0 : Int32} {b0 : Nat} (hb : chv F b0 = true) (hk0 : ck F b0 = 5) (K : gOK Γ cX9_lineUp gU RX9) (hlt : ∀ i, i < 6 → i < g_n Γ) (hRm : g_R Γ = ({ frames := 4, cells := 0, slots := 0, locals := 150 } : Room)) {res : ((Nat → Int32))} (hret : ∀ (pc : Nat) (L : List (Nat × Value)) (w : va_W), decode cX9_lineUp pc = .ok (.return_, 1) → (w = cw (g_E Γ) q r (gpl F) o0 A0 C0 h0 o1 A1 C1 h1 o2 A2 C2 h2 gs0 (gu gA 3 res) tb0 tA0 bf0 hi0) → gGO Γ 0 0 pc L [] w) (ga3 : (Nat → Int32)) (x2 : Int32) (x3 : Int32) (h : pX9_lineUp_k5 (gA 2) ga3 x2 x3 = some res) : gGO Γ 0 0 0 [(0, .ref b0), (1, .ref (r 3 2)), (2, .int x2), (3, .int x3), (4, .ref (r 3 3))] [] (cw (g_E Γ) q r (gpl F) o0 A0 C0 h0 o1 A1 C1 h1 o2 A2 C2 h2 gs0 (gu gA 3 ga3) tb0 tA0 bf0 hi0) := by
    unfold pX9_lineUp_k5 at h
    refine g_iconst (v := 0) K dX9_lineUp_0 (by decide) ?_
    refine g_istore (L' := [(5, .int 0), (0, .ref b0), (1, .ref (r 3 2)), (2, .int x2), (3, .int x3), (4, .ref (r 3 3))]) K dX9_lineUp_1 (hlt _ (by decide)) rfl ?_
    refine g_sub (L' := [(1, .ref (r 3 2)), (2, .int x2), (3, .int x3), (4, .ref (r 3 3)), (5, .int 0)]) [2, 3, 4, 5, 0] rfl ?_
    exact wX9_lineUp_k5_3 (C0 := C0) (h0 := h0) (C1 := C1) (h1 := h1) (C2 := C2) (h2 := h2) (gs0 := gs0) (tb0 := tb0) (tA0 := tA0) (bf0 := bf0) (hi0 := hi0) hF hb hk0 K hlt hRm hret 1000 ga3 x2 x3 0 h

set_option maxRecDepth 100000 in
theorem ctX9_lineUp_k5 {E : gE} {q : Nat → Nat} {r : Nat → Nat → Nat} {F : gF} (hF : gFz E F) {b0 : Nat} (hb : chv F b0 = true) (hk0 : ck F b0 = 5) (o0 : Nat → Int32) (A0 : Nat → Nat → Int32) (C0 : Nat → Option Nat) (h0 : Nat) (o1 : Nat → Int32) (A1 : Nat → Nat → Int32) (C1 : Nat → Option Nat) (h1 : Nat) (o2 : Nat → Int32) (A2 : Nat → Nat → Int32) (C2 : Nat → Option Nat) (h2 : Nat) (gs0 : Int32) (gA : Nat → Nat → Int32) (tb0 : Int32) (tA0 bf0 : Nat → Int32) (hi0 : Int32) (x2 : Int32) (x3 : Int32) {res : ((Nat → Int32))} (h : pX9_lineUp_k5 (gA 2) (gA 3) x2 x3 = some res) : gMv yX9_lineUp (.code yX9_lineUp cX9_lineUp 6 none :: gU) ({ frames := 4, cells := 0, slots := 0, locals := 150 } : Room) 0 0 E [.ref b0, .ref (r 3 2), .int x2, .int x3, .ref (r 3 3)] (cw E q r (gpl F) o0 A0 C0 h0 o1 A1 C1 h1 o2 A2 C2 h2 gs0 gA tb0 tA0 bf0 hi0) (fun w => w = cw E q r (gpl F) o0 A0 C0 h0 o1 A1 C1 h1 o2 A2 C2 h2 gs0 (gu gA 3 res) tb0 tA0 bf0 hi0) := by
  refine g_met_v (by decide +kernel) (Nat.le_of_ble_eq_true rfl) (fun Γ K hn hE hRm _ hret => ?_)
  subst hE
  have hlt : ∀ i, i < 6 → i < g_n Γ := fun i q => by rw [hn]; exact q
  refine g_ws (ws' := cw (g_E Γ) q r (gpl F) o0 A0 C0 h0 o1 A1 C1 h1 o2 A2 C2 h2 gs0 (gu gA 3 (gA 3)) tb0 tA0 bf0 hi0) rfl ?_
  refine g_sub (L' := [(0, .ref b0), (1, .ref (r 3 2)), (2, .int x2), (3, .int x3), (4, .ref (r 3 3))]) [0, 1, 2, 3, 4] rfl ?_
  exact wX9_lineUp_k5 (C0 := C0) (h0 := h0) (C1 := C1) (h1 := h1) (C2 := C2) (h2 := h2) (gs0 := gs0) (tb0 := tb0) (tA0 := tA0) (bf0 := bf0) (hi0 := hi0) hF hb hk0 K hlt hRm hret (gA 3) x2 x3 h

set_option maxHeartbeats 4000000 in
set_option maxRecDepth 100000 in
theorem wX3_lineUp_k5_64 {Γ : gT} {q : Nat → Nat} {r : Nat → Nat → Nat} {F : gF} (hF : gFz (g_E Γ) F) {o0 : Nat → Int32} {A0 : Nat → Nat → Int32} {C0 : Nat → Option Nat} {h0 : Nat} {o1 : Nat → Int32} {A1 : Nat → Nat → Int32} {C1 : Nat → Option Nat} {h1 : Nat} {o2 : Nat → Int32} {A2 : Nat → Nat → Int32} {C2 : Nat → Option Nat} {h2 : Nat} {gs0 : Int32} {gA : Nat → Nat → Int32} {tb0 : Int32} {tA0 bf0 : Nat → Int32} {hi0 : Int32} {b0 : Nat} (hb : chv F b0 = true) (hk0 : ck F b0 = 5) (K : gOK Γ cX3_lineUp gU RX3) (hlt : ∀ i, i < 9 → i < g_n Γ) (hRm : g_R Γ = ({ frames := 5, cells := 0, slots := 0, locals := 175 } : Room)) {res : ((Nat → Int32))} (hret : ∀ (pc : Nat) (L : List (Nat × Value)) (w : va_W), decode cX3_lineUp pc = .ok (.return_, 1) → (w = cw (g_E Γ) q r (gpl F) o0 A0 C0 h0 o1 A1 C1 h1 o2 A2 C2 h2 gs0 (gu gA 3 res) tb0 tA0 bf0 hi0) → gGO Γ 0 0 pc L [] w) : ∀ (n : Nat) (ga3 : (Nat → Int32)) (x3 : Int32) (x5 : Int32) (x6 : Int32) (x7 : Int32), pX3_lineUp_k5_64 F b0 (gA 2) n ga3 x3 x5 x6 x7 = some res → gGO Γ 0 0 64 [(1, .ref (r 3 2)), (3, .int x3), (4, .ref (r 3 3)), (5, .int x5), (6, .int x6), (7, .int x7)] [] (cw (g_E Γ) q r (gpl F) o0 A0 C0 h0 o1 A1 C1 h1 o2 A2 C2 h2 gs0 (gu gA 3 ga3) tb0 tA0 bf0 hi0) := by
  intro n
  induction n with
  | zero => intro _ _ _ _ _ h; cases h
  | succ n ih =>
    intro ga3 x3 x5 x6 x7 h
    simp only [pX3_lineUp_k5_64] at h
    refine g_iload K dX3_lineUp_64 5 rfl ?_
    refine g_iload K dX3_lineUp_66 4 rfl ?_
    obtain ⟨ht9, hf9⟩ := gi_br h; clear h
    refine g_icmp_ge (tgt := 111) K dX3_lineUp_68 (by decide) (fun qh => ?_) (fun qh => ?_)
    · have h := ht9 qh; clear ht9 hf9
      obtain rfl := Option.some.inj h
      exact hret _ _ _ dX3_lineUp_111 rfl
    · have h := hf9 qh; clear ht9 hf9
      refine g_iload_n K dX3_lineUp_71 rfl 1 rfl ?_
      refine g_iload K dX3_lineUp_72 5 rfl ?_
      refine g_iadd K dX3_lineUp_74 ?_
      refine g_iload K dX3_lineUp_75 4 rfl ?_
      obtain ⟨c_1, h⟩ := gi_none h
      refine g_irem K dX3_lineUp_77 c_1 ?_
      obtain ⟨v_2, ev_2, h⟩ := gi_nm h
      refine g_topi ev_2 ?_
      refine g_istore (L' := [(8, .int v_2), (1, .ref (r 3 2)), (3, .int x3), (4, .ref (r 3 3)), (5, .int x5), (6, .int x6), (7, .int x7)]) K dX3_lineUp_78 (hlt _ (by decide)) rfl ?_
      refine g_aload K dX3_lineUp_80 3 rfl ?_
      refine g_iload K dX3_lineUp_82 6 rfl ?_
      refine g_iconst (v := 1) K dX3_lineUp_84 (by decide) ?_
      refine g_iadd K dX3_lineUp_85 ?_
      refine g_aload_n K dX3_lineUp_86 rfl 1 rfl ?_
      refine g_iload K dX3_lineUp_87 0 rfl ?_
      refine g_iload K dX3_lineUp_89 4 rfl ?_
      obtain ⟨ht9, hf9⟩ := gi_br h; clear h
      refine g_icmp_ge (tgt := 99) K dX3_lineUp_91 (by decide) (fun qh => ?_) (fun qh => ?_)
      · have h := ht9 qh; clear ht9 hf9
        refine g_iload K dX3_lineUp_99 0 rfl ?_
        refine g_iconst (v := 1) K dX3_lineUp_101 (by decide) ?_
        refine g_iadd K dX3_lineUp_102 ?_
        obtain ⟨b_3, h⟩ := gi_none h
        refine g_iald (f := (gA 2)) K 38 rfl (ginb_in b_3) dX3_lineUp_103 ?_
        obtain ⟨b_4, h⟩ := gi_none h
        obtain ⟨f_5, ef_5, h⟩ := gi_nm h
        refine g_iast (f := ga3) (ws' := cw (g_E Γ) q r (gpl F) o0 A0 C0 h0 o1 A1 C1 h1 o2 A2 C2 h2 gs0 (gu gA 3 f_5) tb0 tA0 bf0 hi0) K 39 rfl (ginb_in b_4) dX3_lineUp_104 (by rw [ef_5]; rfl) ?_
        refine g_iinc (v := (x7 + 1)) (L' := [(7, .int (x7 + 1)), (8, .int v_2), (1, .ref (r 3 2)), (3, .int x3), (4, .ref (r 3 3)), (5, .int x5), (6, .int x6)]) K dX3_lineUp_105 6 rfl rfl (hlt _ (by decide)) rfl ?_
        refine g_goto (tgt := 64) K dX3_lineUp_108 (by decide) ?_
        refine g_sub (L' := [(1, .ref (r 3 2)), (3, .int x3), (4, .ref (r 3 3)), (5, .int x5), (6, .int x6), (7, .int (x7 + 1))]) [2, 3, 4, 5, 6, 0] rfl ?_
        exact ih f_5 x3 x5 x6 (x7 + 1) h
      · have h := hf9 qh; clear ht9 hf9
        refine g_iload K dX3_lineUp_94 0 rfl ?_
        refine g_goto (tgt := 103) K dX3_lineUp_96 (by decide) ?_
        obtain ⟨b_6, h⟩ := gi_none h
        refine g_iald (f := (gA 2)) K 38 rfl (ginb_in b_6) dX3_lineUp_103 ?_
        obtain ⟨b_7, h⟩ := gi_none h
        obtain ⟨f_8, ef_8, h⟩ := gi_nm h
        refine g_iast (f := ga3) (ws' := cw (g_E Γ) q r (gpl F) o0 A0 C0 h0 o1 A1 C1 h1 o2 A2 C2 h2 gs0 (gu gA 3 f_8) tb0 tA0 bf0 hi0) K 39 rfl (ginb_in b_7) dX3_lineUp_104 (by rw [ef_8]; rfl) ?_
        refine g_iinc (v := (x7 + 1)) (L' := [(7, .int (x7 + 1)), (8, .int v_2), (1, .ref (r 3 2)), (3, .int x3), (4, .ref (r 3 3)), (5, .int x5), (6, .int x6)]) K dX3_lineUp_105 6 rfl rfl (hlt _ (by decide)) rfl ?_
        refine g_goto (tgt := 64) K dX3_lineUp_108 (by decide) ?_
        refine g_sub (L' := [(1, .ref (r 3 2)), (3, .int x3), (4, .ref (r 3 3)), (5, .int x5), (6, .int x6), (7, .int (x7 + 1))]) [2, 3, 4, 5, 6, 0] rfl ?_
        exact ih f_8 x3 x5 x6 (x7 + 1) h

set_option maxHeartbeats 4000000 in
set_option maxRecDepth 100000 in
theorem wX3_lineUp_k5_33 {Γ : gT} {q : Nat → Nat} {r : Nat → Nat → Nat} {F : gF} (hF : gFz (g_E Γ) F) {o0 : Nat → Int32} {A0 : Nat → Nat → Int32} {C0 : Nat → Option Nat} {h0 : Nat} {o1 : Nat → Int32} {A1 : Nat → Nat → Int32} {C1 : Nat → Option Nat} {h1 : Nat} {o2 : Nat → Int32} {A2 : Nat → Nat → Int32} {C2 : Nat → Option Nat} {h2 : Nat} {gs0 : Int32} {gA : Nat → Nat → Int32} {tb0 : Int32} {tA0 bf0 : Nat → Int32} {hi0 : Int32} {b0 : Nat} (hb : chv F b0 = true) (hk0 : ck F b0 = 5) (K : gOK Γ cX3_lineUp gU RX3) (hlt : ∀ i, i < 9 → i < g_n Γ) (hRm : g_R Γ = ({ frames := 5, cells := 0, slots := 0, locals := 175 } : Room)) {res : ((Nat → Int32))} (hret : ∀ (pc : Nat) (L : List (Nat × Value)) (w : va_W), decode cX3_lineUp pc = .ok (.return_, 1) → (w = cw (g_E Γ) q r (gpl F) o0 A0 C0 h0 o1 A1 C1 h1 o2 A2 C2 h2 gs0 (gu gA 3 res) tb0 tA0 bf0 hi0) → gGO Γ 0 0 pc L [] w) (ga3 : (Nat → Int32)) (x2 : Int32) (x3 : Int32) (x5 : Int32) (h : pX3_lineUp_k5_33 F b0 (gA 2) ga3 x2 x3 x5 = some res) : gGO Γ 0 0 33 [(0, .ref b0), (1, .ref (r 3 2)), (2, .int x2), (3, .int x3), (4, .ref (r 3 3)), (5, .int x5)] [] (cw (g_E Γ) q r (gpl F) o0 A0 C0 h0 o1 A1 C1 h1 o2 A2 C2 h2 gs0 (gu gA 3 ga3) tb0 tA0 bf0 hi0) := by
    unfold pX3_lineUp_k5_33 at h
    refine g_iload K dX3_lineUp_33 5 rfl ?_
    obtain ⟨ht9, hf9⟩ := gi_br h; clear h
    refine g_if_ge (tgt := 48) K dX3_lineUp_35 (by decide) (fun qh => ?_) (fun qh => ?_)
    · have h := ht9 qh; clear ht9 hf9
      refine g_aload K dX3_lineUp_48 4 rfl ?_
      refine g_iconst (v := 0) K dX3_lineUp_50 (by decide) ?_
      refine g_aload_n K dX3_lineUp_51 rfl 0 rfl ?_
      refine g_getF (v := .int (cv F b0)) (T := TX3) (ref := "ChiefGrades$Keeping") K hin_X3 (gF_at (j := 5) hF hb hk0 (by decide)) rfl 2 (by decide) u_270 (Or.inr u_271) rfl dX3_lineUp_52 ?_
      obtain ⟨b_1, h⟩ := gi_none h
      obtain ⟨f_2, ef_2, h⟩ := gi_nm h
      refine g_iast (f := ga3) (ws' := cw (g_E Γ) q r (gpl F) o0 A0 C0 h0 o1 A1 C1 h1 o2 A2 C2 h2 gs0 (gu gA 3 f_2) tb0 tA0 bf0 hi0) K 39 rfl (ginb_in b_1) dX3_lineUp_55 (by rw [ef_2]; rfl) ?_
      refine g_iload_n K dX3_lineUp_56 rfl 2 rfl ?_
      refine g_iconst (v := 1) K dX3_lineUp_57 (by decide) ?_
      refine g_isub K dX3_lineUp_58 ?_
      obtain ⟨v_3, ev_3, h⟩ := gi_nm h
      refine g_topi ev_3 ?_
      refine g_istore (L' := [(6, .int v_3), (0, .ref b0), (1, .ref (r 3 2)), (2, .int x2), (3, .int x3), (4, .ref (r 3 3)), (5, .int x5)]) K dX3_lineUp_59 (hlt _ (by decide)) rfl ?_
      refine g_iconst (v := 0) K dX3_lineUp_61 (by decide) ?_
      refine g_istore (L' := [(7, .int 0), (6, .int v_3), (0, .ref b0), (1, .ref (r 3 2)), (2, .int x2), (3, .int x3), (4, .ref (r 3 3)), (5, .int x5)]) K dX3_lineUp_62 (hlt _ (by decide)) rfl ?_
      refine g_sub (L' := [(1, .ref (r 3 2)), (3, .int x3), (4, .ref (r 3 3)), (5, .int x5), (6, .int v_3), (7, .int 0)]) [3, 5, 6, 7, 1, 0] rfl ?_
      exact wX3_lineUp_k5_64 (C0 := C0) (h0 := h0) (C1 := C1) (h1 := h1) (C2 := C2) (h2 := h2) (gs0 := gs0) (tb0 := tb0) (tA0 := tA0) (bf0 := bf0) (hi0 := hi0) hF hb hk0 K hlt hRm hret 1000 f_2 x3 x5 v_3 0 h
    · have h := hf9 qh; clear ht9 hf9
      refine g_aload_n K dX3_lineUp_38 rfl 0 rfl ?_
      refine g_aload_n K dX3_lineUp_39 rfl 1 rfl ?_
      refine g_iload_n K dX3_lineUp_40 rfl 2 rfl ?_
      refine g_iload_n K dX3_lineUp_41 rfl 3 rfl ?_
      refine g_aload K dX3_lineUp_42 4 rfl ?_
      obtain ⟨z_4, hz_4, h⟩ := gi_bd h
      refine g_callSUvF (As := [.ref (r 3 2), .int x2, .int x3, .ref (r 3 3)]) (bytes := cX9_lineUp) (maxL := 6) (ret := none) K (ctX9_lineUp_k5 hF (b0 := b0) hb hk0 o0 A0 C0 h0 o1 A1 C1 h1 o2 A2 C2 h2 gs0 (gu gA 3 ga3) tb0 tA0 bf0 hi0 x2 x3 (res := z_4) hz_4) gc_SU_RX3_13_X9_lineUp rfl qsu_X9_lineUp (gF_at (j := 5) hF hb hk0 (by decide)) rfl rfl hRm rfl rfl rfl (by decide) (Nat.le_of_ble_eq_true rfl) (by decide) dX3_lineUp_44 (fun w hw => ?_)
      subst hw
      refine g_ws (ws' := cw (g_E Γ) q r (gpl F) o0 A0 C0 h0 o1 A1 C1 h1 o2 A2 C2 h2 gs0 (gu gA 3 z_4) tb0 tA0 bf0 hi0) rfl ?_
      obtain rfl := Option.some.inj h
      exact hret _ _ _ dX3_lineUp_47 rfl

set_option maxHeartbeats 4000000 in
set_option maxRecDepth 100000 in
theorem wX3_lineUp_k5_6 {Γ : gT} {q : Nat → Nat} {r : Nat → Nat → Nat} {F : gF} (hF : gFz (g_E Γ) F) {o0 : Nat → Int32} {A0 : Nat → Nat → Int32} {C0 : Nat → Option Nat} {h0 : Nat} {o1 : Nat → Int32} {A1 : Nat → Nat → Int32} {C1 : Nat → Option Nat} {h1 : Nat} {o2 : Nat → Int32} {A2 : Nat → Nat → Int32} {C2 : Nat → Option Nat} {h2 : Nat} {gs0 : Int32} {gA : Nat → Nat → Int32} {tb0 : Int32} {tA0 bf0 : Nat → Int32} {hi0 : Int32} {b0 : Nat} (hb : chv F b0 = true) (hk0 : ck F b0 = 5) (K : gOK Γ cX3_lineUp gU RX3) (hlt : ∀ i, i < 9 → i < g_n Γ) (hRm : g_R Γ = ({ frames := 5, cells := 0, slots := 0, locals := 175 } : Room)) {res : ((Nat → Int32))} (hret : ∀ (pc : Nat) (L : List (Nat × Value)) (w : va_W), decode cX3_lineUp pc = .ok (.return_, 1) → (w = cw (g_E Γ) q r (gpl F) o0 A0 C0 h0 o1 A1 C1 h1 o2 A2 C2 h2 gs0 (gu gA 3 res) tb0 tA0 bf0 hi0) → gGO Γ 0 0 pc L [] w) : ∀ (n : Nat) (ga3 : (Nat → Int32)) (x2 : Int32) (x3 : Int32) (x5 : Int32) (x6 : Int32), pX3_lineUp_k5_6 F b0 (gA 2) n ga3 x2 x3 x5 x6 = some res → gGO Γ 0 0 6 [(0, .ref b0), (1, .ref (r 3 2)), (2, .int x2), (3, .int x3), (4, .ref (r 3 3)), (5, .int x5), (6, .int x6)] [] (cw (g_E Γ) q r (gpl F) o0 A0 C0 h0 o1 A1 C1 h1 o2 A2 C2 h2 gs0 (gu gA 3 ga3) tb0 tA0 bf0 hi0) := by
  intro n
  induction n with
  | zero => intro _ _ _ _ _ h; cases h
  | succ n ih =>
    intro ga3 x2 x3 x5 x6 h
    simp only [pX3_lineUp_k5_6] at h
    refine g_iload K dX3_lineUp_6 6 rfl ?_
    refine g_iload_n K dX3_lineUp_8 rfl 2 rfl ?_
    obtain ⟨ht9, hf9⟩ := gi_br h; clear h
    refine g_icmp_ge (tgt := 33) K dX3_lineUp_9 (by decide) (fun qh => ?_) (fun qh => ?_)
    · have h := ht9 qh; clear ht9 hf9
      refine g_sub (L' := [(0, .ref b0), (1, .ref (r 3 2)), (2, .int x2), (3, .int x3), (4, .ref (r 3 3)), (5, .int x5)]) [0, 1, 2, 3, 4, 5] rfl ?_
      exact wX3_lineUp_k5_33 (C0 := C0) (h0 := h0) (C1 := C1) (h1 := h1) (C2 := C2) (h2 := h2) (gs0 := gs0) (tb0 := tb0) (tA0 := tA0) (bf0 := bf0) (hi0 := hi0) hF hb hk0 K hlt hRm hret ga3 x2 x3 x5 h
    · have h := hf9 qh; clear ht9 hf9
      refine g_aload_n K dX3_lineUp_12 rfl 1 rfl ?_
      refine g_iload K dX3_lineUp_13 6 rfl ?_
      obtain ⟨b_1, h⟩ := gi_none h
      refine g_iald (f := (gA 2)) K 38 rfl (ginb_in b_1) dX3_lineUp_15 ?_
      refine g_aload_n K dX3_lineUp_16 rfl 0 rfl ?_
      refine g_getF (v := .int (cv F b0)) (T := TX3) (ref := "ChiefGrades$Keeping") K hin_X3 (gF_at (j := 5) hF hb hk0 (by decide)) rfl 2 (by decide) u_270 (Or.inr u_271) rfl dX3_lineUp_17 ?_
      obtain ⟨ht9, hf9⟩ := gi_br h; clear h
      refine g_icmp_ne (tgt := 27) K dX3_lineUp_20 (by decide) (fun qh => ?_) (fun qh => ?_)
      · have h := hf9 qh; clear ht9 hf9
        refine g_iinc (v := (x6 + 1)) (L' := [(6, .int (x6 + 1)), (0, .ref b0), (1, .ref (r 3 2)), (2, .int x2), (3, .int x3), (4, .ref (r 3 3)), (5, .int x5)]) K dX3_lineUp_27 6 rfl rfl (hlt _ (by decide)) rfl ?_
        refine g_goto (tgt := 6) K dX3_lineUp_30 (by decide) ?_
        refine g_sub (L' := [(0, .ref b0), (1, .ref (r 3 2)), (2, .int x2), (3, .int x3), (4, .ref (r 3 3)), (5, .int x5), (6, .int (x6 + 1))]) [1, 2, 3, 4, 5, 6, 0] rfl ?_
        exact ih ga3 x2 x3 x5 (x6 + 1) h
      · have h := ht9 qh; clear ht9 hf9
        refine g_iload K dX3_lineUp_23 6 rfl ?_
        refine g_istore (L' := [(5, .int x6), (0, .ref b0), (1, .ref (r 3 2)), (2, .int x2), (3, .int x3), (4, .ref (r 3 3)), (6, .int x6)]) K dX3_lineUp_25 (hlt _ (by decide)) rfl ?_
        refine g_iinc (v := (x6 + 1)) (L' := [(6, .int (x6 + 1)), (5, .int x6), (0, .ref b0), (1, .ref (r 3 2)), (2, .int x2), (3, .int x3), (4, .ref (r 3 3))]) K dX3_lineUp_27 6 rfl rfl (hlt _ (by decide)) rfl ?_
        refine g_goto (tgt := 6) K dX3_lineUp_30 (by decide) ?_
        refine g_sub (L' := [(0, .ref b0), (1, .ref (r 3 2)), (2, .int x2), (3, .int x3), (4, .ref (r 3 3)), (5, .int x6), (6, .int (x6 + 1))]) [2, 3, 4, 5, 6, 1, 0] rfl ?_
        exact ih ga3 x2 x3 x6 (x6 + 1) h

set_option maxHeartbeats 4000000 in
set_option maxRecDepth 100000 in
theorem wX3_lineUp_k5 {Γ : gT} {q : Nat → Nat} {r : Nat → Nat → Nat} {F : gF} (hF : gFz (g_E Γ) F) {o0 : Nat → Int32} {A0 : Nat → Nat → Int32} {C0 : Nat → Option Nat} {h0 : Nat} {o1 : Nat → Int32} {A1 : Nat → Nat → Int32} {C1 : Nat → Option Nat} {h1 : Nat} {o2 : Nat → Int32} {A2 : Nat → Nat → Int32} {C2 : Nat → Option Nat} {h2 : Nat} {gs0 : Int32} {gA : Nat → Nat → Int32} {tb0 : Int32} {tA0 bf0 : Nat → Int32} {hi0 : Int32} {b0 : Nat} (hb : chv F b0 = true) (hk0 : ck F b0 = 5) (K : gOK Γ cX3_lineUp gU RX3) (hlt : ∀ i, i < 9 → i < g_n Γ) (hRm : g_R Γ = ({ frames := 5, cells := 0, slots := 0, locals := 175 } : Room)) {res : ((Nat → Int32))} (hret : ∀ (pc : Nat) (L : List (Nat × Value)) (w : va_W), decode cX3_lineUp pc = .ok (.return_, 1) → (w = cw (g_E Γ) q r (gpl F) o0 A0 C0 h0 o1 A1 C1 h1 o2 A2 C2 h2 gs0 (gu gA 3 res) tb0 tA0 bf0 hi0) → gGO Γ 0 0 pc L [] w) (ga3 : (Nat → Int32)) (x2 : Int32) (x3 : Int32) (h : pX3_lineUp_k5 F b0 (gA 2) ga3 x2 x3 = some res) : gGO Γ 0 0 0 [(0, .ref b0), (1, .ref (r 3 2)), (2, .int x2), (3, .int x3), (4, .ref (r 3 3))] [] (cw (g_E Γ) q r (gpl F) o0 A0 C0 h0 o1 A1 C1 h1 o2 A2 C2 h2 gs0 (gu gA 3 ga3) tb0 tA0 bf0 hi0) := by
    unfold pX3_lineUp_k5 at h
    refine g_iconst (v := (-1)) K dX3_lineUp_0 (by decide) ?_
    refine g_istore (L' := [(5, .int (-1)), (0, .ref b0), (1, .ref (r 3 2)), (2, .int x2), (3, .int x3), (4, .ref (r 3 3))]) K dX3_lineUp_1 (hlt _ (by decide)) rfl ?_
    refine g_iconst (v := 0) K dX3_lineUp_3 (by decide) ?_
    refine g_istore (L' := [(6, .int 0), (5, .int (-1)), (0, .ref b0), (1, .ref (r 3 2)), (2, .int x2), (3, .int x3), (4, .ref (r 3 3))]) K dX3_lineUp_4 (hlt _ (by decide)) rfl ?_
    refine g_sub (L' := [(0, .ref b0), (1, .ref (r 3 2)), (2, .int x2), (3, .int x3), (4, .ref (r 3 3)), (5, .int (-1)), (6, .int 0)]) [2, 3, 4, 5, 6, 1, 0] rfl ?_
    exact wX3_lineUp_k5_6 (C0 := C0) (h0 := h0) (C1 := C1) (h1 := h1) (C2 := C2) (h2 := h2) (gs0 := gs0) (tb0 := tb0) (tA0 := tA0) (bf0 := bf0) (hi0 := hi0) hF hb hk0 K hlt hRm hret 1000 ga3 x2 x3 (-1) 0 h

set_option maxRecDepth 100000 in
theorem ctX3_lineUp_k5 {E : gE} {q : Nat → Nat} {r : Nat → Nat → Nat} {F : gF} (hF : gFz E F) {b0 : Nat} (hb : chv F b0 = true) (hk0 : ck F b0 = 5) (o0 : Nat → Int32) (A0 : Nat → Nat → Int32) (C0 : Nat → Option Nat) (h0 : Nat) (o1 : Nat → Int32) (A1 : Nat → Nat → Int32) (C1 : Nat → Option Nat) (h1 : Nat) (o2 : Nat → Int32) (A2 : Nat → Nat → Int32) (C2 : Nat → Option Nat) (h2 : Nat) (gs0 : Int32) (gA : Nat → Nat → Int32) (tb0 : Int32) (tA0 bf0 : Nat → Int32) (hi0 : Int32) (x2 : Int32) (x3 : Int32) {res : ((Nat → Int32))} (h : pX3_lineUp_k5 F b0 (gA 2) (gA 3) x2 x3 = some res) : gMv yX3_lineUp (.code yX3_lineUp cX3_lineUp 9 none :: gU) ({ frames := 5, cells := 0, slots := 0, locals := 175 } : Room) 0 0 E [.ref b0, .ref (r 3 2), .int x2, .int x3, .ref (r 3 3)] (cw E q r (gpl F) o0 A0 C0 h0 o1 A1 C1 h1 o2 A2 C2 h2 gs0 gA tb0 tA0 bf0 hi0) (fun w => w = cw E q r (gpl F) o0 A0 C0 h0 o1 A1 C1 h1 o2 A2 C2 h2 gs0 (gu gA 3 res) tb0 tA0 bf0 hi0) := by
  refine g_met_v (by decide +kernel) (Nat.le_of_ble_eq_true rfl) (fun Γ K hn hE hRm _ hret => ?_)
  subst hE
  have hlt : ∀ i, i < 9 → i < g_n Γ := fun i q => by rw [hn]; exact q
  refine g_ws (ws' := cw (g_E Γ) q r (gpl F) o0 A0 C0 h0 o1 A1 C1 h1 o2 A2 C2 h2 gs0 (gu gA 3 (gA 3)) tb0 tA0 bf0 hi0) rfl ?_
  refine g_sub (L' := [(0, .ref b0), (1, .ref (r 3 2)), (2, .int x2), (3, .int x3), (4, .ref (r 3 3))]) [0, 1, 2, 3, 4] rfl ?_
  exact wX3_lineUp_k5 (C0 := C0) (h0 := h0) (C1 := C1) (h1 := h1) (C2 := C2) (h2 := h2) (gs0 := gs0) (tb0 := tb0) (tA0 := tA0) (bf0 := bf0) (hi0 := hi0) hF hb hk0 K hlt hRm hret (gA 3) x2 x3 h

set_option maxHeartbeats 4000000 in
set_option maxRecDepth 100000 in
theorem wX0_lineUp_k6 {Γ : gT} {q : Nat → Nat} {r : Nat → Nat → Nat} {F : gF} (hF : gFz (g_E Γ) F) {o0 : Nat → Int32} {A0 : Nat → Nat → Int32} {C0 : Nat → Option Nat} {h0 : Nat} {o1 : Nat → Int32} {A1 : Nat → Nat → Int32} {C1 : Nat → Option Nat} {h1 : Nat} {o2 : Nat → Int32} {A2 : Nat → Nat → Int32} {C2 : Nat → Option Nat} {h2 : Nat} {gs0 : Int32} {gA : Nat → Nat → Int32} {tb0 : Int32} {tA0 bf0 : Nat → Int32} {hi0 : Int32} {b0 : Nat} (hb : chv F b0 = true) (hk0 : ck F b0 = 6) (K : gOK Γ cX0_lineUp gU RX0) (hlt : ∀ i, i < 5 → i < g_n Γ) (hRm : g_R Γ = ({ frames := 4, cells := 0, slots := 0, locals := 150 } : Room)) {res : Unit} (hret : ∀ (pc : Nat) (L : List (Nat × Value)) (w : va_W), decode cX0_lineUp pc = .ok (.return_, 1) → (w = cw (g_E Γ) q r (gpl F) o0 A0 C0 h0 o1 A1 C1 h1 o2 A2 C2 h2 gs0 gA tb0 tA0 bf0 hi0) → gGO Γ 0 0 pc L [] w) (x2 : Int32) (x3 : Int32) (h : pX0_lineUp_k6 x2 x3 = some res) : gGO Γ 0 0 0 [(0, .ref b0), (1, .ref (r 3 2)), (2, .int x2), (3, .int x3), (4, .ref (r 3 3))] [] (cw (g_E Γ) q r (gpl F) o0 A0 C0 h0 o1 A1 C1 h1 o2 A2 C2 h2 gs0 gA tb0 tA0 bf0 hi0) := by
    unfold pX0_lineUp_k6 at h
    obtain rfl := Option.some.inj h
    exact hret _ _ _ dX0_lineUp_0 rfl

set_option maxRecDepth 100000 in
theorem ctX0_lineUp_k6 {E : gE} {q : Nat → Nat} {r : Nat → Nat → Nat} {F : gF} (hF : gFz E F) {b0 : Nat} (hb : chv F b0 = true) (hk0 : ck F b0 = 6) (o0 : Nat → Int32) (A0 : Nat → Nat → Int32) (C0 : Nat → Option Nat) (h0 : Nat) (o1 : Nat → Int32) (A1 : Nat → Nat → Int32) (C1 : Nat → Option Nat) (h1 : Nat) (o2 : Nat → Int32) (A2 : Nat → Nat → Int32) (C2 : Nat → Option Nat) (h2 : Nat) (gs0 : Int32) (gA : Nat → Nat → Int32) (tb0 : Int32) (tA0 bf0 : Nat → Int32) (hi0 : Int32) (x2 : Int32) (x3 : Int32) {res : Unit} (h : pX0_lineUp_k6 x2 x3 = some res) : gMv yX0_lineUp (.code yX0_lineUp cX0_lineUp 5 none :: gU) ({ frames := 4, cells := 0, slots := 0, locals := 150 } : Room) 0 0 E [.ref b0, .ref (r 3 2), .int x2, .int x3, .ref (r 3 3)] (cw E q r (gpl F) o0 A0 C0 h0 o1 A1 C1 h1 o2 A2 C2 h2 gs0 gA tb0 tA0 bf0 hi0) (fun w => w = cw E q r (gpl F) o0 A0 C0 h0 o1 A1 C1 h1 o2 A2 C2 h2 gs0 gA tb0 tA0 bf0 hi0) := by
  refine g_met_v (by decide +kernel) (Nat.le_of_ble_eq_true rfl) (fun Γ K hn hE hRm _ hret => ?_)
  subst hE
  have hlt : ∀ i, i < 5 → i < g_n Γ := fun i q => by rw [hn]; exact q
  refine g_sub (L' := [(0, .ref b0), (1, .ref (r 3 2)), (2, .int x2), (3, .int x3), (4, .ref (r 3 3))]) [0, 1, 2, 3, 4] rfl ?_
  exact wX0_lineUp_k6 (C0 := C0) (h0 := h0) (C1 := C1) (h1 := h1) (C2 := C2) (h2 := h2) (gs0 := gs0) (tb0 := tb0) (tA0 := tA0) (bf0 := bf0) (hi0 := hi0) hF hb hk0 K hlt hRm hret x2 x3 h

set_option maxHeartbeats 4000000 in
set_option maxRecDepth 100000 in
theorem wX1_byMark {Γ : gT} {ws : va_W} (K : gOK Γ cX1_byMark gU RX1) (hlt : ∀ i, i < 1 → i < g_n Γ) (hRm : g_R Γ = ({ frames := 4, cells := 0, slots := 0, locals := 150 } : Room)) {res : Int32} (hret : ∀ (pc : Nat) (L : List (Nat × Value)) (v : Int32) (w : va_W), decode cX1_byMark pc = .ok (.ireturn, 1) → narrow .int (.int v) = .int v → (v = res ∧ w = ws) → gGO Γ 0 0 pc L [.int v] w) (x0 : Int32) (h : pX1_byMark x0 = some res) : gGO Γ 0 0 0 [(0, .int x0)] [] (ws) := by
    unfold pX1_byMark at h
    refine g_iload_n K dX1_byMark_0 rfl 0 rfl ?_
    refine g_bipush (v := 80) K dX1_byMark_1 (by decide) ?_
    obtain ⟨ht9, hf9⟩ := gi_br h; clear h
    refine g_icmp_lt (tgt := 10) K dX1_byMark_3 (by decide) (fun qh => ?_) (fun qh => ?_)
    · have h := ht9 qh; clear ht9 hf9
      refine g_iload_n K dX1_byMark_10 rfl 0 rfl ?_
      refine g_bipush (v := 60) K dX1_byMark_11 (by decide) ?_
      obtain ⟨ht9, hf9⟩ := gi_br h; clear h
      refine g_icmp_lt (tgt := 20) K dX1_byMark_13 (by decide) (fun qh => ?_) (fun qh => ?_)
      · have h := ht9 qh; clear ht9 hf9
        refine g_iload_n K dX1_byMark_20 rfl 0 rfl ?_
        refine g_bipush (v := 40) K dX1_byMark_21 (by decide) ?_
        obtain ⟨ht9, hf9⟩ := gi_br h; clear h
        refine g_icmp_lt (tgt := 30) K dX1_byMark_23 (by decide) (fun qh => ?_) (fun qh => ?_)
        · have h := ht9 qh; clear ht9 hf9
          refine g_iload_n K dX1_byMark_30 rfl 0 rfl ?_
          refine g_bipush (v := 20) K dX1_byMark_31 (by decide) ?_
          obtain ⟨ht9, hf9⟩ := gi_br h; clear h
          refine g_icmp_lt (tgt := 40) K dX1_byMark_33 (by decide) (fun qh => ?_) (fun qh => ?_)
          · have h := ht9 qh; clear ht9 hf9
            refine g_iconst (v := 1) K dX1_byMark_40 (by decide) ?_
            obtain rfl := Option.some.inj h
            exact hret _ _ _ _ dX1_byMark_41 rfl ⟨rfl, rfl⟩
          · have h := hf9 qh; clear ht9 hf9
            refine g_iconst (v := 2) K dX1_byMark_36 (by decide) ?_
            refine g_goto (tgt := 41) K dX1_byMark_37 (by decide) ?_
            obtain rfl := Option.some.inj h
            exact hret _ _ _ _ dX1_byMark_41 rfl ⟨rfl, rfl⟩
        · have h := hf9 qh; clear ht9 hf9
          refine g_iconst (v := 3) K dX1_byMark_26 (by decide) ?_
          refine g_goto (tgt := 41) K dX1_byMark_27 (by decide) ?_
          obtain rfl := Option.some.inj h
          exact hret _ _ _ _ dX1_byMark_41 rfl ⟨rfl, rfl⟩
      · have h := hf9 qh; clear ht9 hf9
        refine g_iconst (v := 4) K dX1_byMark_16 (by decide) ?_
        refine g_goto (tgt := 41) K dX1_byMark_17 (by decide) ?_
        obtain rfl := Option.some.inj h
        exact hret _ _ _ _ dX1_byMark_41 rfl ⟨rfl, rfl⟩
    · have h := hf9 qh; clear ht9 hf9
      refine g_iconst (v := 5) K dX1_byMark_6 (by decide) ?_
      refine g_goto (tgt := 41) K dX1_byMark_7 (by decide) ?_
      obtain rfl := Option.some.inj h
      exact hret _ _ _ _ dX1_byMark_41 rfl ⟨rfl, rfl⟩

set_option maxRecDepth 100000 in
theorem ctX1_byMark {E : gE} {ws : va_W} (x0 : Int32) {res : Int32} (h : pX1_byMark x0 = some res) : gMi yX1_byMark (.code yX1_byMark cX1_byMark 1 (some .int) :: gU) ({ frames := 4, cells := 0, slots := 0, locals := 150 } : Room) 0 0 E [.int x0] ws (fun v w => v = res ∧ w = ws) := by
  refine g_met_i (by decide +kernel) (Nat.le_of_ble_eq_true rfl) (fun Γ K hn hE hRm _ hret => ?_)
  subst hE
  have hlt : ∀ i, i < 1 → i < g_n Γ := fun i q => by rw [hn]; exact q
  refine g_sub (L' := [(0, .int x0)]) [0] rfl ?_
  exact wX1_byMark K hlt hRm hret x0 h

