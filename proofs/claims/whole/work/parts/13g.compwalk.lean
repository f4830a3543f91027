set_option maxHeartbeats 4000000 in
set_option maxRecDepth 100000 in
theorem wX11_neighbours_37 {Γ : gT} {q : Nat → Nat} {r : Nat → Nat → Nat} {F : gF} (hF : gFz (g_E Γ) F) {o0 : Nat → Int32} {A0 : Nat → Nat → Int32} {C0 : Nat → Option Nat} {h0 : Nat} {o1 : Nat → Int32} {A1 : Nat → Nat → Int32} {C1 : Nat → Option Nat} {h1 : Nat} {o2 : Nat → Int32} {A2 : Nat → Nat → Int32} {C2 : Nat → Option Nat} {h2 : Nat} {gs0 : Int32} {gA : Nat → Nat → Int32} {tb0 : Int32} {tA0 bf0 : Nat → Int32} {hi0 : Int32} (K : gOK Γ cX11_neighbours gU RX11) (hlt : ∀ i, i < 5 → i < g_n Γ) (hRm : g_R Γ = ({ frames := 4, cells := 0, slots := 0, locals := 150 } : Room)) {res : Int32} (hret : ∀ (pc : Nat) (L : List (Nat × Value)) (v : Int32) (w : va_W), decode cX11_neighbours pc = .ok (.ireturn, 1) → narrow .int (.int v) = .int v → (v = res ∧ w = cw (g_E Γ) q r (gpl F) o0 A0 C0 h0 o1 A1 C1 h1 o2 A2 C2 h2 gs0 gA tb0 tA0 bf0 hi0) → gGO Γ 0 0 pc L [.int v] w) {k4 : Int32 → Int32 → Int32 → Option (Int32)} (hk4 : ∀ (x1 : Int32) (x2 : Int32) (x3 : Int32), k4 x1 x2 x3 = some res → gGO Γ 0 0 4 [(0, .ref (q 5)), (1, .int x1), (2, .int x2), (3, .int x3)] [] (cw (g_E Γ) q r (gpl F) o0 A0 C0 h0 o1 A1 C1 h1 o2 A2 C2 h2 gs0 gA tb0 tA0 bf0 hi0)) : ∀ (n : Nat) (x1 : Int32) (x2 : Int32) (x3 : Int32) (x4 : Int32), pX11_neighbours_37 k4 (o0 3) (A0 14) (A0 15) n x1 x2 x3 x4 = some res → gGO Γ 0 0 37 [(0, .ref (q 5)), (1, .int x1), (2, .int x2), (3, .int x3), (4, .int x4)] [] (cw (g_E Γ) q r (gpl F) o0 A0 C0 h0 o1 A1 C1 h1 o2 A2 C2 h2 gs0 gA tb0 tA0 bf0 hi0) := by
  intro n
  induction n with
  | zero => intro _ _ _ _ h; cases h
  | succ n ih =>
    intro x1 x2 x3 x4 h
    simp only [pX11_neighbours_37] at h
    refine g_iload K dX11_neighbours_37 4 rfl ?_
    refine g_aload_n K dX11_neighbours_39 rfl 0 rfl ?_
    refine g_get (v := .ref (q 0)) (T := TX11) (ref := "ChiefGrades") K hin_X11 0 rfl rfl 0 (by decide) u_324 (Or.inl rfl) rfl dX11_neighbours_40 ?_
    refine g_get (v := .int (o0 3)) (T := TX10) (ref := "ChiefGrades$World") K hin_X10 1 rfl rfl 3 (by decide) u_167 (Or.inl rfl) rfl dX11_neighbours_43 ?_
    obtain ⟨ht9, hf9⟩ := gi_br h; clear h
    refine g_icmp_ge (tgt := 92) K dX11_neighbours_46 (by decide) (fun qh => ?_) (fun qh => ?_)
    · have h := ht9 qh; clear ht9 hf9
      refine g_iinc (v := (x3 + 1)) (L' := [(3, .int (x3 + 1)), (0, .ref (q 5)), (1, .int x1), (2, .int x2), (4, .int x4)]) K dX11_neighbours_92 3 rfl rfl (hlt _ (by decide)) rfl ?_
      refine g_goto (tgt := 4) K dX11_neighbours_95 (by decide) ?_
      refine g_sub (L' := [(0, .ref (q 5)), (1, .int x1), (2, .int x2), (3, .int (x3 + 1))]) [1, 2, 3, 0] rfl ?_
      exact hk4 x1 x2 (x3 + 1) h
    · have h := hf9 qh; clear ht9 hf9
      refine g_aload_n K dX11_neighbours_49 rfl 0 rfl ?_
      refine g_get (v := .ref (q 0)) (T := TX11) (ref := "ChiefGrades") K hin_X11 0 rfl rfl 0 (by decide) u_324 (Or.inl rfl) rfl dX11_neighbours_50 ?_
      refine g_get (v := .ref (r 0 14)) (T := TX10) (ref := "ChiefGrades$World") K hin_X10 1 rfl rfl 14 (by decide) u_194 (Or.inl rfl) rfl dX11_neighbours_53 ?_
      refine g_iload K dX11_neighbours_56 4 rfl ?_
      obtain ⟨b_1, h⟩ := gi_none h
      refine g_iald (f := (A0 14)) K 12 rfl (ginb_in b_1) dX11_neighbours_58 ?_
      refine g_aload_n K dX11_neighbours_59 rfl 0 rfl ?_
      refine g_get (v := .ref (q 0)) (T := TX11) (ref := "ChiefGrades") K hin_X11 0 rfl rfl 0 (by decide) u_324 (Or.inl rfl) rfl dX11_neighbours_60 ?_
      refine g_get (v := .ref (r 0 14)) (T := TX10) (ref := "ChiefGrades$World") K hin_X10 1 rfl rfl 14 (by decide) u_194 (Or.inl rfl) rfl dX11_neighbours_63 ?_
      refine g_iload_n K dX11_neighbours_66 rfl 3 rfl ?_
      obtain ⟨b_2, h⟩ := gi_none h
      refine g_iald (f := (A0 14)) K 12 rfl (ginb_in b_2) dX11_neighbours_67 ?_
      obtain ⟨ht9, hf9⟩ := gi_br h; clear h
      refine g_icmp_ne (tgt := 86) K dX11_neighbours_68 (by decide) (fun qh => ?_) (fun qh => ?_)
      · have h := hf9 qh; clear ht9 hf9
        refine g_iinc (v := (x4 + 1)) (L' := [(4, .int (x4 + 1)), (0, .ref (q 5)), (1, .int x1), (2, .int x2), (3, .int x3)]) K dX11_neighbours_86 4 rfl rfl (hlt _ (by decide)) rfl ?_
        refine g_goto (tgt := 37) K dX11_neighbours_89 (by decide) ?_
        refine g_sub (L' := [(0, .ref (q 5)), (1, .int x1), (2, .int x2), (3, .int x3), (4, .int (x4 + 1))]) [1, 2, 3, 4, 0] rfl ?_
        exact ih x1 x2 x3 (x4 + 1) h
      · have h := ht9 qh; clear ht9 hf9
        refine g_iload_n K dX11_neighbours_71 rfl 2 rfl ?_
        refine g_iconst (v := 1) K dX11_neighbours_72 (by decide) ?_
        refine g_aload_n K dX11_neighbours_73 rfl 0 rfl ?_
        refine g_get (v := .ref (q 0)) (T := TX11) (ref := "ChiefGrades") K hin_X11 0 rfl rfl 0 (by decide) u_324 (Or.inl rfl) rfl dX11_neighbours_74 ?_
        refine g_get (v := .ref (r 0 15)) (T := TX10) (ref := "ChiefGrades$World") K hin_X10 1 rfl rfl 15 (by decide) u_196 (Or.inl rfl) rfl dX11_neighbours_77 ?_
        refine g_iload K dX11_neighbours_80 4 rfl ?_
        obtain ⟨b_3, h⟩ := gi_none h
        refine g_iald (f := (A0 15)) K 13 rfl (ginb_in b_3) dX11_neighbours_82 ?_
        refine g_ishl K dX11_neighbours_83 ?_
        refine g_ior K dX11_neighbours_84 ?_
        obtain ⟨v_4, ev_4, h⟩ := gi_nm h
        refine g_topi ev_4 ?_
        refine g_istore_n (L' := [(2, .int v_4), (0, .ref (q 5)), (1, .int x1), (3, .int x3), (4, .int x4)]) K dX11_neighbours_85 rfl (hlt _ (by decide)) rfl ?_
        refine g_iinc (v := (x4 + 1)) (L' := [(4, .int (x4 + 1)), (2, .int v_4), (0, .ref (q 5)), (1, .int x1), (3, .int x3)]) K dX11_neighbours_86 4 rfl rfl (hlt _ (by decide)) rfl ?_
        refine g_goto (tgt := 37) K dX11_neighbours_89 (by decide) ?_
        refine g_sub (L' := [(0, .ref (q 5)), (1, .int x1), (2, .int v_4), (3, .int x3), (4, .int (x4 + 1))]) [2, 3, 1, 4, 0] rfl ?_
        exact ih x1 v_4 x3 (x4 + 1) h

set_option maxHeartbeats 4000000 in
set_option maxRecDepth 100000 in
theorem wX11_neighbours_4 {Γ : gT} {q : Nat → Nat} {r : Nat → Nat → Nat} {F : gF} (hF : gFz (g_E Γ) F) {o0 : Nat → Int32} {A0 : Nat → Nat → Int32} {C0 : Nat → Option Nat} {h0 : Nat} {o1 : Nat → Int32} {A1 : Nat → Nat → Int32} {C1 : Nat → Option Nat} {h1 : Nat} {o2 : Nat → Int32} {A2 : Nat → Nat → Int32} {C2 : Nat → Option Nat} {h2 : Nat} {gs0 : Int32} {gA : Nat → Nat → Int32} {tb0 : Int32} {tA0 bf0 : Nat → Int32} {hi0 : Int32} (K : gOK Γ cX11_neighbours gU RX11) (hlt : ∀ i, i < 5 → i < g_n Γ) (hRm : g_R Γ = ({ frames := 4, cells := 0, slots := 0, locals := 150 } : Room)) {res : Int32} (hret : ∀ (pc : Nat) (L : List (Nat × Value)) (v : Int32) (w : va_W), decode cX11_neighbours pc = .ok (.ireturn, 1) → narrow .int (.int v) = .int v → (v = res ∧ w = cw (g_E Γ) q r (gpl F) o0 A0 C0 h0 o1 A1 C1 h1 o2 A2 C2 h2 gs0 gA tb0 tA0 bf0 hi0) → gGO Γ 0 0 pc L [.int v] w) : ∀ (n : Nat) (x1 : Int32) (x2 : Int32) (x3 : Int32), pX11_neighbours_4 (o0 3) (A0 14) (A0 15) n x1 x2 x3 = some res → gGO Γ 0 0 4 [(0, .ref (q 5)), (1, .int x1), (2, .int x2), (3, .int x3)] [] (cw (g_E Γ) q r (gpl F) o0 A0 C0 h0 o1 A1 C1 h1 o2 A2 C2 h2 gs0 gA tb0 tA0 bf0 hi0) := by
  intro n
  induction n with
  | zero => intro _ _ _ h; cases h
  | succ n ih =>
    intro x1 x2 x3 h
    simp only [pX11_neighbours_4] at h
    refine g_iload_n K dX11_neighbours_4 rfl 3 rfl ?_
    refine g_aload_n K dX11_neighbours_5 rfl 0 rfl ?_
    refine g_get (v := .ref (q 0)) (T := TX11) (ref := "ChiefGrades") K hin_X11 0 rfl rfl 0 (by decide) u_324 (Or.inl rfl) rfl dX11_neighbours_6 ?_
    refine g_get (v := .int (o0 3)) (T := TX10) (ref := "ChiefGrades$World") K hin_X10 1 rfl rfl 3 (by decide) u_167 (Or.inl rfl) rfl dX11_neighbours_9 ?_
    obtain ⟨ht9, hf9⟩ := gi_br h; clear h
    refine g_icmp_ge (tgt := 98) K dX11_neighbours_12 (by decide) (fun qh => ?_) (fun qh => ?_)
    · have h := ht9 qh; clear ht9 hf9
      refine g_iload_n K dX11_neighbours_98 rfl 2 rfl ?_
      obtain rfl := Option.some.inj h
      exact hret _ _ _ _ dX11_neighbours_99 rfl ⟨rfl, rfl⟩
    · have h := hf9 qh; clear ht9 hf9
      refine g_iload_n K dX11_neighbours_15 rfl 1 rfl ?_
      refine g_iconst (v := 1) K dX11_neighbours_16 (by decide) ?_
      refine g_aload_n K dX11_neighbours_17 rfl 0 rfl ?_
      refine g_get (v := .ref (q 0)) (T := TX11) (ref := "ChiefGrades") K hin_X11 0 rfl rfl 0 (by decide) u_324 (Or.inl rfl) rfl dX11_neighbours_18 ?_
      refine g_get (v := .ref (r 0 15)) (T := TX10) (ref := "ChiefGrades$World") K hin_X10 1 rfl rfl 15 (by decide) u_196 (Or.inl rfl) rfl dX11_neighbours_21 ?_
      refine g_iload_n K dX11_neighbours_24 rfl 3 rfl ?_
      obtain ⟨b_1, h⟩ := gi_none h
      refine g_iald (f := (A0 15)) K 13 rfl (ginb_in b_1) dX11_neighbours_25 ?_
      refine g_ishl K dX11_neighbours_26 ?_
      refine g_iand K dX11_neighbours_27 ?_
      obtain ⟨ht9, hf9⟩ := gi_br h; clear h
      refine g_if_ne (tgt := 34) K dX11_neighbours_28 (by decide) (fun qh => ?_) (fun qh => ?_)
      · have h := hf9 qh; clear ht9 hf9
        refine g_iconst (v := 0) K dX11_neighbours_34 (by decide) ?_
        refine g_istore (L' := [(4, .int 0), (0, .ref (q 5)), (1, .int x1), (2, .int x2), (3, .int x3)]) K dX11_neighbours_35 (hlt _ (by decide)) rfl ?_
        refine g_sub (L' := [(0, .ref (q 5)), (1, .int x1), (2, .int x2), (3, .int x3), (4, .int 0)]) [1, 2, 3, 4, 0] rfl ?_
        exact wX11_neighbours_37 (C0 := C0) (h0 := h0) (C1 := C1) (h1 := h1) (C2 := C2) (h2 := h2) (gs0 := gs0) (tb0 := tb0) (tA0 := tA0) (bf0 := bf0) (hi0 := hi0) hF K hlt hRm hret ih 1000 x1 x2 x3 0 h
      · have h := ht9 qh; clear ht9 hf9
        refine g_goto (tgt := 92) K dX11_neighbours_31 (by decide) ?_
        refine g_iinc (v := (x3 + 1)) (L' := [(3, .int (x3 + 1)), (0, .ref (q 5)), (1, .int x1), (2, .int x2)]) K dX11_neighbours_92 3 rfl rfl (hlt _ (by decide)) rfl ?_
        refine g_goto (tgt := 4) K dX11_neighbours_95 (by decide) ?_
        refine g_sub (L' := [(0, .ref (q 5)), (1, .int x1), (2, .int x2), (3, .int (x3 + 1))]) [1, 2, 3, 0] rfl ?_
        exact ih x1 x2 (x3 + 1) h

set_option maxHeartbeats 4000000 in
set_option maxRecDepth 100000 in
theorem wX11_neighbours {Γ : gT} {q : Nat → Nat} {r : Nat → Nat → Nat} {F : gF} (hF : gFz (g_E Γ) F) {o0 : Nat → Int32} {A0 : Nat → Nat → Int32} {C0 : Nat → Option Nat} {h0 : Nat} {o1 : Nat → Int32} {A1 : Nat → Nat → Int32} {C1 : Nat → Option Nat} {h1 : Nat} {o2 : Nat → Int32} {A2 : Nat → Nat → Int32} {C2 : Nat → Option Nat} {h2 : Nat} {gs0 : Int32} {gA : Nat → Nat → Int32} {tb0 : Int32} {tA0 bf0 : Nat → Int32} {hi0 : Int32} (K : gOK Γ cX11_neighbours gU RX11) (hlt : ∀ i, i < 5 → i < g_n Γ) (hRm : g_R Γ = ({ frames := 4, cells := 0, slots := 0, locals := 150 } : Room)) {res : Int32} (hret : ∀ (pc : Nat) (L : List (Nat × Value)) (v : Int32) (w : va_W), decode cX11_neighbours pc = .ok (.ireturn, 1) → narrow .int (.int v) = .int v → (v = res ∧ w = cw (g_E Γ) q r (gpl F) o0 A0 C0 h0 o1 A1 C1 h1 o2 A2 C2 h2 gs0 gA tb0 tA0 bf0 hi0) → gGO Γ 0 0 pc L [.int v] w) (x1 : Int32) (h : pX11_neighbours (o0 3) (A0 14) (A0 15) x1 = some res) : gGO Γ 0 0 0 [(0, .ref (q 5)), (1, .int x1)] [] (cw (g_E Γ) q r (gpl F) o0 A0 C0 h0 o1 A1 C1 h1 o2 A2 C2 h2 gs0 gA tb0 tA0 bf0 hi0) := by
    unfold pX11_neighbours at h
    refine g_iconst (v := 0) K dX11_neighbours_0 (by decide) ?_
    refine g_istore_n (L' := [(2, .int 0), (0, .ref (q 5)), (1, .int x1)]) K dX11_neighbours_1 rfl (hlt _ (by decide)) rfl ?_
    refine g_iconst (v := 0) K dX11_neighbours_2 (by decide) ?_
    refine g_istore_n (L' := [(3, .int 0), (2, .int 0), (0, .ref (q 5)), (1, .int x1)]) K dX11_neighbours_3 rfl (hlt _ (by decide)) rfl ?_
    refine g_sub (L' := [(0, .ref (q 5)), (1, .int x1), (2, .int 0), (3, .int 0)]) [2, 3, 1, 0] rfl ?_
    exact wX11_neighbours_4 (C0 := C0) (h0 := h0) (C1 := C1) (h1 := h1) (C2 := C2) (h2 := h2) (gs0 := gs0) (tb0 := tb0) (tA0 := tA0) (bf0 := bf0) (hi0 := hi0) hF K hlt hRm hret 1000 x1 0 0 h

set_option maxRecDepth 100000 in
theorem ctX11_neighbours {E : gE} {q : Nat → Nat} {r : Nat → Nat → Nat} {F : gF} (hF : gFz E F) (o0 : Nat → Int32) (A0 : Nat → Nat → Int32) (C0 : Nat → Option Nat) (h0 : Nat) (o1 : Nat → Int32) (A1 : Nat → Nat → Int32) (C1 : Nat → Option Nat) (h1 : Nat) (o2 : Nat → Int32) (A2 : Nat → Nat → Int32) (C2 : Nat → Option Nat) (h2 : Nat) (gs0 : Int32) (gA : Nat → Nat → Int32) (tb0 : Int32) (tA0 bf0 : Nat → Int32) (hi0 : Int32) (x1 : Int32) {res : Int32} (h : pX11_neighbours (o0 3) (A0 14) (A0 15) x1 = some res) : gMi yX11_neighbours (.code yX11_neighbours cX11_neighbours 5 (some .int) :: gU) ({ frames := 4, cells := 0, slots := 0, locals := 150 } : Room) 0 0 E [.ref (q 5), .int x1] (cw E q r (gpl F) o0 A0 C0 h0 o1 A1 C1 h1 o2 A2 C2 h2 gs0 gA tb0 tA0 bf0 hi0) (fun v w => v = res ∧ w = cw E q r (gpl F) o0 A0 C0 h0 o1 A1 C1 h1 o2 A2 C2 h2 gs0 gA tb0 tA0 bf0 hi0) := by
  refine g_met_i (by decide +kernel) (Nat.le_of_ble_eq_true rfl) (fun Γ K hn hE hRm _ hret => ?_)
  subst hE
  have hlt : ∀ i, i < 5 → i < g_n Γ := fun i q => by rw [hn]; exact q
  refine g_sub (L' := [(0, .ref (q 5)), (1, .int x1)]) [0, 1] rfl ?_
  exact wX11_neighbours (C0 := C0) (h0 := h0) (C1 := C1) (h1 := h1) (C2 := C2) (h2 := h2) (gs0 := gs0) (tb0 := tb0) (tA0 := tA0) (bf0 := bf0) (hi0 := hi0) hF K hlt hRm hret x1 h

set_option maxHeartbeats 4000000 in
set_option maxRecDepth 100000 in
theorem wX11_netOf_6 {Γ : gT} {q : Nat → Nat} {r : Nat → Nat → Nat} {F : gF} (hF : gFz (g_E Γ) F) {o0 : Nat → Int32} {A0 : Nat → Nat → Int32} {C0 : Nat → Option Nat} {h0 : Nat} {o1 : Nat → Int32} {A1 : Nat → Nat → Int32} {C1 : Nat → Option Nat} {h1 : Nat} {o2 : Nat → Int32} {A2 : Nat → Nat → Int32} {C2 : Nat → Option Nat} {h2 : Nat} {gs0 : Int32} {gA : Nat → Nat → Int32} {tb0 : Int32} {tA0 bf0 : Nat → Int32} {hi0 : Int32} (K : gOK Γ cX11_netOf gU RX11) (hlt : ∀ i, i < 4 → i < g_n Γ) (hRm : g_R Γ = ({ frames := 5, cells := 0, slots := 0, locals := 174 } : Room)) {res : Int32} (hret : ∀ (pc : Nat) (L : List (Nat × Value)) (v : Int32) (w : va_W), decode cX11_netOf pc = .ok (.ireturn, 1) → narrow .int (.int v) = .int v → (v = res ∧ w = cw (g_E Γ) q r (gpl F) o0 A0 C0 h0 o1 A1 C1 h1 o2 A2 C2 h2 gs0 gA tb0 tA0 bf0 hi0) → gGO Γ 0 0 pc L [.int v] w) : ∀ (n : Nat) (x2 : Int32) (x3 : Int32), pX11_netOf_6 (o0 3) (A0 14) (A0 15) n x2 x3 = some res → gGO Γ 0 0 6 [(0, .ref (q 5)), (2, .int x2), (3, .int x3)] [] (cw (g_E Γ) q r (gpl F) o0 A0 C0 h0 o1 A1 C1 h1 o2 A2 C2 h2 gs0 gA tb0 tA0 bf0 hi0) := by
  intro n
  induction n with
  | zero => intro _ _ h; cases h
  | succ n ih =>
    intro x2 x3 h
    simp only [pX11_netOf_6] at h
    refine g_iload_n K dX11_netOf_6 rfl 2 rfl ?_
    refine g_iconst (v := 4) K dX11_netOf_7 (by decide) ?_
    obtain ⟨ht9, hf9⟩ := gi_br h; clear h
    refine g_icmp_ge (tgt := 25) K dX11_netOf_8 (by decide) (fun qh => ?_) (fun qh => ?_)
    · have h := ht9 qh; clear ht9 hf9
      refine g_iload_n K dX11_netOf_25 rfl 1 rfl ?_
      obtain rfl := Option.some.inj h
      exact hret _ _ _ _ dX11_netOf_26 rfl ⟨rfl, rfl⟩
    · have h := hf9 qh; clear ht9 hf9
      refine g_iload_n K dX11_netOf_11 rfl 1 rfl ?_
      refine g_aload_n K dX11_netOf_12 rfl 0 rfl ?_
      refine g_iload_n K dX11_netOf_13 rfl 1 rfl ?_
      obtain ⟨z_1, hz_1, h⟩ := gi_bd h
      refine g_callVi (As := [.int x2]) (bytes := cX11_neighbours) (maxL := 5) (ret := (some .int)) K (ctX11_neighbours hF o0 A0 C0 h0 o1 A1 C1 h1 o2 A2 C2 h2 gs0 gA tb0 tA0 bf0 hi0 x2 (res := z_1) hz_1) gc_V_RX11_275_X11_neighbours rfl qv_X11_neighbours 0 rfl rfl rfl hRm rfl rfl rfl (by decide) (Nat.le_of_ble_eq_true rfl) (by decide) dX11_netOf_14 (fun v w hw => ?_)
      obtain ⟨hv9, rfl⟩ := hw; have hv9 := hv9.symm; subst hv9
      refine g_ior K dX11_netOf_17 ?_
      obtain ⟨v_2, ev_2, h⟩ := gi_nm h
      refine g_topi ev_2 ?_
      refine g_istore_n (L' := [(2, .int v_2), (0, .ref (q 5)), (3, .int x3)]) K dX11_netOf_18 rfl (hlt _ (by decide)) rfl ?_
      refine g_iinc (v := (x3 + 1)) (L' := [(3, .int (x3 + 1)), (2, .int v_2), (0, .ref (q 5))]) K dX11_netOf_19 2 rfl rfl (hlt _ (by decide)) rfl ?_
      refine g_goto (tgt := 6) K dX11_netOf_22 (by decide) ?_
      refine g_sub (L' := [(0, .ref (q 5)), (2, .int v_2), (3, .int (x3 + 1))]) [2, 1, 0] rfl ?_
      exact ih v_2 (x3 + 1) h

set_option maxHeartbeats 4000000 in
set_option maxRecDepth 100000 in
theorem wX11_netOf {Γ : gT} {q : Nat → Nat} {r : Nat → Nat → Nat} {F : gF} (hF : gFz (g_E Γ) F) {o0 : Nat → Int32} {A0 : Nat → Nat → Int32} {C0 : Nat → Option Nat} {h0 : Nat} {o1 : Nat → Int32} {A1 : Nat → Nat → Int32} {C1 : Nat → Option Nat} {h1 : Nat} {o2 : Nat → Int32} {A2 : Nat → Nat → Int32} {C2 : Nat → Option Nat} {h2 : Nat} {gs0 : Int32} {gA : Nat → Nat → Int32} {tb0 : Int32} {tA0 bf0 : Nat → Int32} {hi0 : Int32} (K : gOK Γ cX11_netOf gU RX11) (hlt : ∀ i, i < 4 → i < g_n Γ) (hRm : g_R Γ = ({ frames := 5, cells := 0, slots := 0, locals := 174 } : Room)) {res : Int32} (hret : ∀ (pc : Nat) (L : List (Nat × Value)) (v : Int32) (w : va_W), decode cX11_netOf pc = .ok (.ireturn, 1) → narrow .int (.int v) = .int v → (v = res ∧ w = cw (g_E Γ) q r (gpl F) o0 A0 C0 h0 o1 A1 C1 h1 o2 A2 C2 h2 gs0 gA tb0 tA0 bf0 hi0) → gGO Γ 0 0 pc L [.int v] w) (x1 : Int32) (h : pX11_netOf (o0 3) (A0 14) (A0 15) x1 = some res) : gGO Γ 0 0 0 [(0, .ref (q 5)), (1, .int x1)] [] (cw (g_E Γ) q r (gpl F) o0 A0 C0 h0 o1 A1 C1 h1 o2 A2 C2 h2 gs0 gA tb0 tA0 bf0 hi0) := by
    unfold pX11_netOf at h
    refine g_iconst (v := 1) K dX11_netOf_0 (by decide) ?_
    refine g_iload_n K dX11_netOf_1 rfl 1 rfl ?_
    refine g_ishl K dX11_netOf_2 ?_
    obtain ⟨v_1, ev_1, h⟩ := gi_nm h
    refine g_topi ev_1 ?_
    refine g_istore_n (L' := [(2, .int v_1), (0, .ref (q 5)), (1, .int x1)]) K dX11_netOf_3 rfl (hlt _ (by decide)) rfl ?_
    refine g_iconst (v := 1) K dX11_netOf_4 (by decide) ?_
    refine g_istore_n (L' := [(3, .int 1), (2, .int v_1), (0, .ref (q 5)), (1, .int x1)]) K dX11_netOf_5 rfl (hlt _ (by decide)) rfl ?_
    refine g_sub (L' := [(0, .ref (q 5)), (2, .int v_1), (3, .int 1)]) [2, 1, 0] rfl ?_
    exact wX11_netOf_6 (C0 := C0) (h0 := h0) (C1 := C1) (h1 := h1) (C2 := C2) (h2 := h2) (gs0 := gs0) (tb0 := tb0) (tA0 := tA0) (bf0 := bf0) (hi0 := hi0) hF K hlt hRm hret 1000 v_1 1 h

set_option maxRecDepth 100000 in
theorem ctX11_netOf {E : gE} {q : Nat → Nat} {r : Nat → Nat → Nat} {F : gF} (hF : gFz E F) (o0 : Nat → Int32) (A0 : Nat → Nat → Int32) (C0 : Nat → Option Nat) (h0 : Nat) (o1 : Nat → Int32) (A1 : Nat → Nat → Int32) (C1 : Nat → Option Nat) (h1 : Nat) (o2 : Nat → Int32) (A2 : Nat → Nat → Int32) (C2 : Nat → Option Nat) (h2 : Nat) (gs0 : Int32) (gA : Nat → Nat → Int32) (tb0 : Int32) (tA0 bf0 : Nat → Int32) (hi0 : Int32) (x1 : Int32) {res : Int32} (h : pX11_netOf (o0 3) (A0 14) (A0 15) x1 = some res) : gMi yX11_netOf (.code yX11_netOf cX11_netOf 4 (some .int) :: gU) ({ frames := 5, cells := 0, slots := 0, locals := 174 } : Room) 0 0 E [.ref (q 5), .int x1] (cw E q r (gpl F) o0 A0 C0 h0 o1 A1 C1 h1 o2 A2 C2 h2 gs0 gA tb0 tA0 bf0 hi0) (fun v w => v = res ∧ w = cw E q r (gpl F) o0 A0 C0 h0 o1 A1 C1 h1 o2 A2 C2 h2 gs0 gA tb0 tA0 bf0 hi0) := by
  refine g_met_i (by decide +kernel) (Nat.le_of_ble_eq_true rfl) (fun Γ K hn hE hRm _ hret => ?_)
  subst hE
  have hlt : ∀ i, i < 4 → i < g_n Γ := fun i q => by rw [hn]; exact q
  refine g_sub (L' := [(0, .ref (q 5)), (1, .int x1)]) [0, 1] rfl ?_
  exact wX11_netOf (C0 := C0) (h0 := h0) (C1 := C1) (h1 := h1) (C2 := C2) (h2 := h2) (gs0 := gs0) (tb0 := tb0) (tA0 := tA0) (bf0 := bf0) (hi0 := hi0) hF K hlt hRm hret x1 h

set_option maxHeartbeats 4000000 in
set_option maxRecDepth 100000 in
theorem wX11_howManyNets_4 {Γ : gT} {q : Nat → Nat} {r : Nat → Nat → Nat} {F : gF} (hF : gFz (g_E Γ) F) {o0 : Nat → Int32} {A0 : Nat → Nat → Int32} {C0 : Nat → Option Nat} {h0 : Nat} {o1 : Nat → Int32} {A1 : Nat → Nat → Int32} {C1 : Nat → Option Nat} {h1 : Nat} {o2 : Nat → Int32} {A2 : Nat → Nat → Int32} {C2 : Nat → Option Nat} {h2 : Nat} {gs0 : Int32} {gA : Nat → Nat → Int32} {tb0 : Int32} {tA0 bf0 : Nat → Int32} {hi0 : Int32} (K : gOK Γ cX11_howManyNets gU RX11) (hlt : ∀ i, i < 4 → i < g_n Γ) (hRm : g_R Γ = ({ frames := 6, cells := 0, slots := 0, locals := 197 } : Room)) {res : Int32} (hret : ∀ (pc : Nat) (L : List (Nat × Value)) (v : Int32) (w : va_W), decode cX11_howManyNets pc = .ok (.ireturn, 1) → narrow .int (.int v) = .int v → (v = res ∧ w = cw (g_E Γ) q r (gpl F) o0 A0 C0 h0 o1 A1 C1 h1 o2 A2 C2 h2 gs0 gA tb0 tA0 bf0 hi0) → gGO Γ 0 0 pc L [.int v] w) : ∀ (n : Nat) (x1 : Int32) (x2 : Int32), pX11_howManyNets_4 (o0 1) (o0 3) (A0 14) (A0 15) n x1 x2 = some res → gGO Γ 0 0 4 [(0, .ref (q 5)), (1, .int x1), (2, .int x2)] [] (cw (g_E Γ) q r (gpl F) o0 A0 C0 h0 o1 A1 C1 h1 o2 A2 C2 h2 gs0 gA tb0 tA0 bf0 hi0) := by
  intro n
  induction n with
  | zero => intro _ _ h; cases h
  | succ n ih =>
    intro x1 x2 h
    simp only [pX11_howManyNets_4] at h
    refine g_iload_n K dX11_howManyNets_4 rfl 2 rfl ?_
    refine g_aload_n K dX11_howManyNets_5 rfl 0 rfl ?_
    refine g_get (v := .ref (q 0)) (T := TX11) (ref := "ChiefGrades") K hin_X11 0 rfl rfl 0 (by decide) u_324 (Or.inl rfl) rfl dX11_howManyNets_6 ?_
    refine g_get (v := .int (o0 1)) (T := TX10) (ref := "ChiefGrades$World") K hin_X10 1 rfl rfl 1 (by decide) u_163 (Or.inl rfl) rfl dX11_howManyNets_9 ?_
    obtain ⟨ht9, hf9⟩ := gi_br h; clear h
    refine g_icmp_ge (tgt := 48) K dX11_howManyNets_12 (by decide) (fun qh => ?_) (fun qh => ?_)
    · have h := ht9 qh; clear ht9 hf9
      refine g_iload_n K dX11_howManyNets_48 rfl 1 rfl ?_
      obtain rfl := Option.some.inj h
      exact hret _ _ _ _ dX11_howManyNets_49 rfl ⟨rfl, rfl⟩
    · have h := hf9 qh; clear ht9 hf9
      refine g_aload_n K dX11_howManyNets_15 rfl 0 rfl ?_
      refine g_iload_n K dX11_howManyNets_16 rfl 2 rfl ?_
      obtain ⟨z_1, hz_1, h⟩ := gi_bd h
      refine g_callVi (As := [.int x2]) (bytes := cX11_netOf) (maxL := 4) (ret := (some .int)) K (ctX11_netOf hF o0 A0 C0 h0 o1 A1 C1 h1 o2 A2 C2 h2 gs0 gA tb0 tA0 bf0 hi0 x2 (res := z_1) hz_1) gc_V_RX11_222_X11_netOf rfl qv_X11_netOf 0 rfl rfl rfl hRm rfl rfl rfl (by decide) (Nat.le_of_ble_eq_true rfl) (by decide) dX11_howManyNets_17 (fun v w hw => ?_)
      obtain ⟨hv9, rfl⟩ := hw; have hv9 := hv9.symm; subst hv9
      refine g_iconst (v := 1) K dX11_howManyNets_20 (by decide) ?_
      refine g_iload_n K dX11_howManyNets_21 rfl 2 rfl ?_
      refine g_ishl K dX11_howManyNets_22 ?_
      refine g_iconst (v := 1) K dX11_howManyNets_23 (by decide) ?_
      refine g_isub K dX11_howManyNets_24 ?_
      refine g_iand K dX11_howManyNets_25 ?_
      obtain ⟨ht9, hf9⟩ := gi_br h; clear h
      refine g_if_ne (tgt := 33) K dX11_howManyNets_26 (by decide) (fun qh => ?_) (fun qh => ?_)
      · have h := hf9 qh; clear ht9 hf9
        refine g_iconst (v := 0) K dX11_howManyNets_33 (by decide) ?_
        refine g_istore_n (L' := [(3, .int 0), (0, .ref (q 5)), (1, .int x1), (2, .int x2)]) K dX11_howManyNets_34 rfl (hlt _ (by decide)) rfl ?_
        refine g_iload_n K dX11_howManyNets_35 rfl 0 rfl ?_
        refine g_if_eq (tgt := 42) K dX11_howManyNets_36 (by decide) (fun qh => ?_) (fun qh => absurd qh (by decide))
        refine g_iinc (v := (x2 + 1)) (L' := [(2, .int (x2 + 1)), (3, .int 0), (0, .ref (q 5)), (1, .int x1)]) K dX11_howManyNets_42 3 rfl rfl (hlt _ (by decide)) rfl ?_
        refine g_goto (tgt := 4) K dX11_howManyNets_45 (by decide) ?_
        refine g_sub (L' := [(0, .ref (q 5)), (1, .int x1), (2, .int (x2 + 1))]) [2, 3, 0] rfl ?_
        exact ih x1 (x2 + 1) h
      · have h := ht9 qh; clear ht9 hf9
        refine g_iconst (v := 1) K dX11_howManyNets_29 (by decide) ?_
        refine g_goto (tgt := 34) K dX11_howManyNets_30 (by decide) ?_
        refine g_istore_n (L' := [(3, .int 1), (0, .ref (q 5)), (1, .int x1), (2, .int x2)]) K dX11_howManyNets_34 rfl (hlt _ (by decide)) rfl ?_
        refine g_iload_n K dX11_howManyNets_35 rfl 0 rfl ?_
        refine g_if_eq (tgt := 42) K dX11_howManyNets_36 (by decide) (fun qh => absurd qh (by decide)) (fun qh => ?_)
        refine g_iinc (v := (x1 + 1)) (L' := [(1, .int (x1 + 1)), (3, .int 1), (0, .ref (q 5)), (2, .int x2)]) K dX11_howManyNets_39 2 rfl rfl (hlt _ (by decide)) rfl ?_
        refine g_iinc (v := (x2 + 1)) (L' := [(2, .int (x2 + 1)), (1, .int (x1 + 1)), (3, .int 1), (0, .ref (q 5))]) K dX11_howManyNets_42 3 rfl rfl (hlt _ (by decide)) rfl ?_
        refine g_goto (tgt := 4) K dX11_howManyNets_45 (by decide) ?_
        refine g_sub (L' := [(0, .ref (q 5)), (1, .int (x1 + 1)), (2, .int (x2 + 1))]) [3, 1, 0] rfl ?_
        exact ih (x1 + 1) (x2 + 1) h

set_option maxHeartbeats 4000000 in
set_option maxRecDepth 100000 in
theorem wX11_howManyNets {Γ : gT} {q : Nat → Nat} {r : Nat → Nat → Nat} {F : gF} (hF : gFz (g_E Γ) F) {o0 : Nat → Int32} {A0 : Nat → Nat → Int32} {C0 : Nat → Option Nat} {h0 : Nat} {o1 : Nat → Int32} {A1 : Nat → Nat → Int32} {C1 : Nat → Option Nat} {h1 : Nat} {o2 : Nat → Int32} {A2 : Nat → Nat → Int32} {C2 : Nat → Option Nat} {h2 : Nat} {gs0 : Int32} {gA : Nat → Nat → Int32} {tb0 : Int32} {tA0 bf0 : Nat → Int32} {hi0 : Int32} (K : gOK Γ cX11_howManyNets gU RX11) (hlt : ∀ i, i < 4 → i < g_n Γ) (hRm : g_R Γ = ({ frames := 6, cells := 0, slots := 0, locals := 197 } : Room)) {res : Int32} (hret : ∀ (pc : Nat) (L : List (Nat × Value)) (v : Int32) (w : va_W), decode cX11_howManyNets pc = .ok (.ireturn, 1) → narrow .int (.int v) = .int v → (v = res ∧ w = cw (g_E Γ) q r (gpl F) o0 A0 C0 h0 o1 A1 C1 h1 o2 A2 C2 h2 gs0 gA tb0 tA0 bf0 hi0) → gGO Γ 0 0 pc L [.int v] w) (h : pX11_howManyNets (o0 1) (o0 3) (A0 14) (A0 15) = some res) : gGO Γ 0 0 0 [(0, .ref (q 5))] [] (cw (g_E Γ) q r (gpl F) o0 A0 C0 h0 o1 A1 C1 h1 o2 A2 C2 h2 gs0 gA tb0 tA0 bf0 hi0) := by
    unfold pX11_howManyNets at h
    refine g_iconst (v := 0) K dX11_howManyNets_0 (by decide) ?_
    refine g_istore_n (L' := [(1, .int 0), (0, .ref (q 5))]) K dX11_howManyNets_1 rfl (hlt _ (by decide)) rfl ?_
    refine g_iconst (v := 0) K dX11_howManyNets_2 (by decide) ?_
    refine g_istore_n (L' := [(2, .int 0), (1, .int 0), (0, .ref (q 5))]) K dX11_howManyNets_3 rfl (hlt _ (by decide)) rfl ?_
    refine g_sub (L' := [(0, .ref (q 5)), (1, .int 0), (2, .int 0)]) [2, 1, 0] rfl ?_
    exact wX11_howManyNets_4 (C0 := C0) (h0 := h0) (C1 := C1) (h1 := h1) (C2 := C2) (h2 := h2) (gs0 := gs0) (tb0 := tb0) (tA0 := tA0) (bf0 := bf0) (hi0 := hi0) hF K hlt hRm hret 1000 0 0 h

set_option maxRecDepth 100000 in
theorem ctX11_howManyNets {E : gE} {q : Nat → Nat} {r : Nat → Nat → Nat} {F : gF} (hF : gFz E F) (o0 : Nat → Int32) (A0 : Nat → Nat → Int32) (C0 : Nat → Option Nat) (h0 : Nat) (o1 : Nat → Int32) (A1 : Nat → Nat → Int32) (C1 : Nat → Option Nat) (h1 : Nat) (o2 : Nat → Int32) (A2 : Nat → Nat → Int32) (C2 : Nat → Option Nat) (h2 : Nat) (gs0 : Int32) (gA : Nat → Nat → Int32) (tb0 : Int32) (tA0 bf0 : Nat → Int32) (hi0 : Int32) {res : Int32} (h : pX11_howManyNets (o0 1) (o0 3) (A0 14) (A0 15) = some res) : gMi yX11_howManyNets (.code yX11_howManyNets cX11_howManyNets 4 (some .int) :: gU) ({ frames := 6, cells := 0, slots := 0, locals := 197 } : Room) 0 0 E [.ref (q 5)] (cw E q r (gpl F) o0 A0 C0 h0 o1 A1 C1 h1 o2 A2 C2 h2 gs0 gA tb0 tA0 bf0 hi0) (fun v w => v = res ∧ w = cw E q r (gpl F) o0 A0 C0 h0 o1 A1 C1 h1 o2 A2 C2 h2 gs0 gA tb0 tA0 bf0 hi0) := by
  refine g_met_i (by decide +kernel) (Nat.le_of_ble_eq_true rfl) (fun Γ K hn hE hRm _ hret => ?_)
  subst hE
  have hlt : ∀ i, i < 4 → i < g_n Γ := fun i q => by rw [hn]; exact q
  refine g_sub (L' := [(0, .ref (q 5))]) [0] rfl ?_
  exact wX11_howManyNets (C0 := C0) (h0 := h0) (C1 := C1) (h1 := h1) (C2 := C2) (h2 := h2) (gs0 := gs0) (tb0 := tb0) (tA0 := tA0) (bf0 := bf0) (hi0 := hi0) hF K hlt hRm hret h

set_option maxHeartbeats 4000000 in
set_option maxRecDepth 100000 in
theorem wX11_nets {Γ : gT} {q : Nat → Nat} {r : Nat → Nat → Nat} {F : gF} (hF : gFz (g_E Γ) F) {o0 : Nat → Int32} {A0 : Nat → Nat → Int32} {C0 : Nat → Option Nat} {h0 : Nat} {o1 : Nat → Int32} {A1 : Nat → Nat → Int32} {C1 : Nat → Option Nat} {h1 : Nat} {o2 : Nat → Int32} {A2 : Nat → Nat → Int32} {C2 : Nat → Option Nat} {h2 : Nat} {gs0 : Int32} {gA : Nat → Nat → Int32} {tb0 : Int32} {tA0 bf0 : Nat → Int32} {hi0 : Int32} (K : gOK Γ cX11_nets gU RX11) (hlt : ∀ i, i < 2 → i < g_n Γ) (hRm : g_R Γ = ({ frames := 7, cells := 0, slots := 0, locals := 220 } : Room)) {res : Int32} (hret : ∀ (pc : Nat) (L : List (Nat × Value)) (v : Int32) (w : va_W), decode cX11_nets pc = .ok (.ireturn, 1) → narrow .int (.int v) = .int v → (v = res ∧ w = cw (g_E Γ) q r (gpl F) o0 A0 C0 h0 o1 A1 C1 h1 o2 A2 C2 h2 gs0 gA tb0 tA0 bf0 hi0) → gGO Γ 0 0 pc L [.int v] w) (x1 : Int32) (h : pX11_nets (o0 1) (o0 3) (A0 14) (A0 15) C0 x1 = some res) : gGO Γ 0 0 0 [(0, .ref (q 5)), (1, .int x1)] [] (cw (g_E Γ) q r (gpl F) o0 A0 C0 h0 o1 A1 C1 h1 o2 A2 C2 h2 gs0 gA tb0 tA0 bf0 hi0) := by
    unfold pX11_nets at h
    refine g_iload_n K dX11_nets_0 rfl 1 rfl ?_
    refine g_iconst (v := (-1)) K dX11_nets_1 (by decide) ?_
    obtain ⟨ht9, hf9⟩ := gi_br h; clear h
    refine g_icmp_ne (tgt := 10) K dX11_nets_2 (by decide) (fun qh => ?_) (fun qh => ?_)
    · have h := hf9 qh; clear ht9 hf9
      refine g_aload_n K dX11_nets_10 rfl 0 rfl ?_
      refine g_get (v := .ref (q 0)) (T := TX11) (ref := "ChiefGrades") K hin_X11 0 rfl rfl 0 (by decide) u_324 (Or.inl rfl) rfl dX11_nets_11 ?_
      refine g_iload_n K dX11_nets_14 rfl 1 rfl ?_
      obtain ⟨z_1, hz_1, h⟩ := gi_bd h
      refine g_callVq (As := [.int x1]) (bytes := cX10_chiefAt) (maxL := 2) (ret := (some (.object "ChiefGrades$Chief"))) K (ctX10_chiefAt_w0 hF o0 A0 C0 h0 o1 A1 C1 h1 o2 A2 C2 h2 gs0 gA tb0 tA0 bf0 hi0 x1 (res := z_1) hz_1) gc_V_RX11_101_X10_chiefAt rfl qv_X10_chiefAt 1 rfl rfl rfl hRm rfl rfl rfl (by decide) (Nat.le_of_ble_eq_true rfl) (by decide) dX11_nets_15 (fun v w hw => ?_)
      obtain ⟨hv9, rfl⟩ := hw; have hv9 := hv9.symm; subst hv9
      rcases gi_mt h with ⟨ez, h⟩ | ⟨b_z1, ez, h⟩
      · rw [ez]
        refine g_ifnonnullN K dX11_nets_18 ?_
        refine g_iconst (v := (-1)) K dX11_nets_21 (by decide) ?_
        refine g_goto (tgt := 30) K dX11_nets_22 (by decide) ?_
        obtain rfl := Option.some.inj h
        exact hret _ _ _ _ dX11_nets_30 rfl ⟨rfl, rfl⟩
      · rw [ez]
        refine g_ifnonnull (tgt := 25) K dX11_nets_18 (by decide) ?_
        refine g_aload_n K dX11_nets_25 rfl 0 rfl ?_
        refine g_iload_n K dX11_nets_26 rfl 1 rfl ?_
        obtain ⟨z_2, hz_2, h⟩ := gi_bd h
        refine g_callVi (As := [.int x1]) (bytes := cX11_netOf) (maxL := 4) (ret := (some .int)) K (ctX11_netOf hF o0 A0 C0 h0 o1 A1 C1 h1 o2 A2 C2 h2 gs0 gA tb0 tA0 bf0 hi0 x1 (res := z_2) hz_2) gc_V_RX11_222_X11_netOf rfl qv_X11_netOf 0 rfl rfl rfl hRm rfl rfl rfl (by decide) (Nat.le_of_ble_eq_true rfl) (by decide) dX11_nets_27 (fun v w hw => ?_)
        obtain ⟨hv9, rfl⟩ := hw; have hv9 := hv9.symm; subst hv9
        obtain rfl := Option.some.inj h
        exact hret _ _ _ _ dX11_nets_30 rfl ⟨rfl, rfl⟩
    · have h := ht9 qh; clear ht9 hf9
      refine g_aload_n K dX11_nets_5 rfl 0 rfl ?_
      obtain ⟨z_3, hz_3, h⟩ := gi_bd h
      refine g_callVi (As := []) (bytes := cX11_howManyNets) (maxL := 4) (ret := (some .int)) K (ctX11_howManyNets hF o0 A0 C0 h0 o1 A1 C1 h1 o2 A2 C2 h2 gs0 gA tb0 tA0 bf0 hi0 (res := z_3) hz_3) gc_V_RX11_219_X11_howManyNets rfl qv_X11_howManyNets 0 rfl rfl rfl hRm rfl rfl rfl (by decide) (Nat.le_of_ble_eq_true rfl) (by decide) dX11_nets_6 (fun v w hw => ?_)
      obtain ⟨hv9, rfl⟩ := hw; have hv9 := hv9.symm; subst hv9
      obtain rfl := Option.some.inj h
      exact hret _ _ _ _ dX11_nets_9 rfl ⟨rfl, rfl⟩

set_option maxRecDepth 100000 in
theorem ctX11_nets {E : gE} {q : Nat → Nat} {r : Nat → Nat → Nat} {F : gF} (hF : gFz E F) (o0 : Nat → Int32) (A0 : Nat → Nat → Int32) (C0 : Nat → Option Nat) (h0 : Nat) (o1 : Nat → Int32) (A1 : Nat → Nat → Int32) (C1 : Nat → Option Nat) (h1 : Nat) (o2 : Nat → Int32) (A2 : Nat → Nat → Int32) (C2 : Nat → Option Nat) (h2 : Nat) (gs0 : Int32) (gA : Nat → Nat → Int32) (tb0 : Int32) (tA0 bf0 : Nat → Int32) (hi0 : Int32) (x1 : Int32) {res : Int32} (h : pX11_nets (o0 1) (o0 3) (A0 14) (A0 15) C0 x1 = some res) : gMi yX11_nets (.code yX11_nets cX11_nets 2 (some .int) :: gU) ({ frames := 7, cells := 0, slots := 0, locals := 220 } : Room) 0 0 E [.ref (q 5), .int x1] (cw E q r (gpl F) o0 A0 C0 h0 o1 A1 C1 h1 o2 A2 C2 h2 gs0 gA tb0 tA0 bf0 hi0) (fun v w => v = res ∧ w = cw E q r (gpl F) o0 A0 C0 h0 o1 A1 C1 h1 o2 A2 C2 h2 gs0 gA tb0 tA0 bf0 hi0) := by
  refine g_met_i (by decide +kernel) (Nat.le_of_ble_eq_true rfl) (fun Γ K hn hE hRm _ hret => ?_)
  subst hE
  have hlt : ∀ i, i < 2 → i < g_n Γ := fun i q => by rw [hn]; exact q
  refine g_sub (L' := [(0, .ref (q 5)), (1, .int x1)]) [0, 1] rfl ?_
  exact wX11_nets (C0 := C0) (h0 := h0) (C1 := C1) (h1 := h1) (C2 := C2) (h2 := h2) (gs0 := gs0) (tb0 := tb0) (tA0 := tA0) (bf0 := bf0) (hi0 := hi0) hF K hlt hRm hret x1 h

set_option maxHeartbeats 4000000 in
set_option maxRecDepth 100000 in
theorem wX10_firstGrade_w0_2 {Γ : gT} {q : Nat → Nat} {r : Nat → Nat → Nat} {F : gF} (hF : gFz (g_E Γ) F) {o0 : Nat → Int32} {A0 : Nat → Nat → Int32} {C0 : Nat → Option Nat} {h0 : Nat} {o1 : Nat → Int32} {A1 : Nat → Nat → Int32} {C1 : Nat → Option Nat} {h1 : Nat} {o2 : Nat → Int32} {A2 : Nat → Nat → Int32} {C2 : Nat → Option Nat} {h2 : Nat} {gs0 : Int32} {gA : Nat → Nat → Int32} {tb0 : Int32} {tA0 bf0 : Nat → Int32} {hi0 : Int32} (K : gOK Γ cX10_firstGrade gU RX10) (hlt : ∀ i, i < 4 → i < g_n Γ) (hRm : g_R Γ = ({ frames := 4, cells := 0, slots := 0, locals := 150 } : Room)) {res : Int32} (hret : ∀ (pc : Nat) (L : List (Nat × Value)) (v : Int32) (w : va_W), decode cX10_firstGrade pc = .ok (.ireturn, 1) → narrow .int (.int v) = .int v → (v = res ∧ w = cw (g_E Γ) q r (gpl F) o0 A0 C0 h0 o1 A1 C1 h1 o2 A2 C2 h2 gs0 gA tb0 tA0 bf0 hi0) → gGO Γ 0 0 pc L [.int v] w) : ∀ (n : Nat) (x1 : Int32) (x2 : Int32) (x3 : Int32), pX10_firstGrade_w0_2 (o0 3) (A0 14) (A0 15) (A0 16) n x1 x2 x3 = some res → gGO Γ 0 0 2 [(0, .ref (q 0)), (1, .int x1), (2, .int x2), (3, .int x3)] [] (cw (g_E Γ) q r (gpl F) o0 A0 C0 h0 o1 A1 C1 h1 o2 A2 C2 h2 gs0 gA tb0 tA0 bf0 hi0) := by
  intro n
  induction n with
  | zero => intro _ _ _ h; cases h
  | succ n ih =>
    intro x1 x2 x3 h
    simp only [pX10_firstGrade_w0_2] at h
    refine g_iload_n K dX10_firstGrade_2 rfl 3 rfl ?_
    refine g_aload_n K dX10_firstGrade_3 rfl 0 rfl ?_
    refine g_get (v := .int (o0 3)) (T := TX10) (ref := "ChiefGrades$World") K hin_X10 1 rfl rfl 3 (by decide) u_166 (Or.inl rfl) rfl dX10_firstGrade_4 ?_
    obtain ⟨ht9, hf9⟩ := gi_br h; clear h
    refine g_icmp_ge (tgt := 43) K dX10_firstGrade_7 (by decide) (fun qh => ?_) (fun qh => ?_)
    · have h := ht9 qh; clear ht9 hf9
      refine g_iconst (v := 0) K dX10_firstGrade_43 (by decide) ?_
      obtain rfl := Option.some.inj h
      exact hret _ _ _ _ dX10_firstGrade_44 rfl ⟨rfl, rfl⟩
    · have h := hf9 qh; clear ht9 hf9
      refine g_aload_n K dX10_firstGrade_10 rfl 0 rfl ?_
      refine g_get (v := .ref (r 0 14)) (T := TX10) (ref := "ChiefGrades$World") K hin_X10 1 rfl rfl 14 (by decide) u_193 (Or.inl rfl) rfl dX10_firstGrade_11 ?_
      refine g_iload_n K dX10_firstGrade_14 rfl 3 rfl ?_
      obtain ⟨b_1, h⟩ := gi_none h
      refine g_iald (f := (A0 14)) K 12 rfl (ginb_in b_1) dX10_firstGrade_15 ?_
      refine g_iload_n K dX10_firstGrade_16 rfl 1 rfl ?_
      obtain ⟨ht9, hf9⟩ := gi_br h; clear h
      refine g_icmp_ne (tgt := 37) K dX10_firstGrade_17 (by decide) (fun qh => ?_) (fun qh => ?_)
      · have h := hf9 qh; clear ht9 hf9
        refine g_iinc (v := (x3 + 1)) (L' := [(3, .int (x3 + 1)), (0, .ref (q 0)), (1, .int x1), (2, .int x2)]) K dX10_firstGrade_37 3 rfl rfl (hlt _ (by decide)) rfl ?_
        refine g_goto (tgt := 2) K dX10_firstGrade_40 (by decide) ?_
        refine g_sub (L' := [(0, .ref (q 0)), (1, .int x1), (2, .int x2), (3, .int (x3 + 1))]) [1, 2, 3, 0] rfl ?_
        exact ih x1 x2 (x3 + 1) h
      · have h := ht9 qh; clear ht9 hf9
        refine g_aload_n K dX10_firstGrade_20 rfl 0 rfl ?_
        refine g_get (v := .ref (r 0 15)) (T := TX10) (ref := "ChiefGrades$World") K hin_X10 1 rfl rfl 15 (by decide) u_195 (Or.inl rfl) rfl dX10_firstGrade_21 ?_
        refine g_iload_n K dX10_firstGrade_24 rfl 3 rfl ?_
        obtain ⟨b_2, h⟩ := gi_none h
        refine g_iald (f := (A0 15)) K 13 rfl (ginb_in b_2) dX10_firstGrade_25 ?_
        refine g_iload_n K dX10_firstGrade_26 rfl 2 rfl ?_
        obtain ⟨ht9, hf9⟩ := gi_br h; clear h
        refine g_icmp_ne (tgt := 37) K dX10_firstGrade_27 (by decide) (fun qh => ?_) (fun qh => ?_)
        · have h := hf9 qh; clear ht9 hf9
          refine g_iinc (v := (x3 + 1)) (L' := [(3, .int (x3 + 1)), (0, .ref (q 0)), (1, .int x1), (2, .int x2)]) K dX10_firstGrade_37 3 rfl rfl (hlt _ (by decide)) rfl ?_
          refine g_goto (tgt := 2) K dX10_firstGrade_40 (by decide) ?_
          refine g_sub (L' := [(0, .ref (q 0)), (1, .int x1), (2, .int x2), (3, .int (x3 + 1))]) [1, 2, 3, 0] rfl ?_
          exact ih x1 x2 (x3 + 1) h
        · have h := ht9 qh; clear ht9 hf9
          refine g_aload_n K dX10_firstGrade_30 rfl 0 rfl ?_
          refine g_get (v := .ref (r 0 16)) (T := TX10) (ref := "ChiefGrades$World") K hin_X10 1 rfl rfl 16 (by decide) u_197 (Or.inl rfl) rfl dX10_firstGrade_31 ?_
          refine g_iload_n K dX10_firstGrade_34 rfl 3 rfl ?_
          obtain ⟨b_3, h⟩ := gi_none h
          refine g_iald (f := (A0 16)) K 14 rfl (ginb_in b_3) dX10_firstGrade_35 ?_
          obtain rfl := Option.some.inj h
          exact hret _ _ _ _ dX10_firstGrade_36 rfl ⟨rfl, rfl⟩

set_option maxHeartbeats 4000000 in
set_option maxRecDepth 100000 in
theorem wX10_firstGrade_w0 {Γ : gT} {q : Nat → Nat} {r : Nat → Nat → Nat} {F : gF} (hF : gFz (g_E Γ) F) {o0 : Nat → Int32} {A0 : Nat → Nat → Int32} {C0 : Nat → Option Nat} {h0 : Nat} {o1 : Nat → Int32} {A1 : Nat → Nat → Int32} {C1 : Nat → Option Nat} {h1 : Nat} {o2 : Nat → Int32} {A2 : Nat → Nat → Int32} {C2 : Nat → Option Nat} {h2 : Nat} {gs0 : Int32} {gA : Nat → Nat → Int32} {tb0 : Int32} {tA0 bf0 : Nat → Int32} {hi0 : Int32} (K : gOK Γ cX10_firstGrade gU RX10) (hlt : ∀ i, i < 4 → i < g_n Γ) (hRm : g_R Γ = ({ frames := 4, cells := 0, slots := 0, locals := 150 } : Room)) {res : Int32} (hret : ∀ (pc : Nat) (L : List (Nat × Value)) (v : Int32) (w : va_W), decode cX10_firstGrade pc = .ok (.ireturn, 1) → narrow .int (.int v) = .int v → (v = res ∧ w = cw (g_E Γ) q r (gpl F) o0 A0 C0 h0 o1 A1 C1 h1 o2 A2 C2 h2 gs0 gA tb0 tA0 bf0 hi0) → gGO Γ 0 0 pc L [.int v] w) (x1 : Int32) (x2 : Int32) (h : pX10_firstGrade_w0 (o0 3) (A0 14) (A0 15) (A0 16) x1 x2 = some res) : gGO Γ 0 0 0 [(0, .ref (q 0)), (1, .int x1), (2, .int x2)] [] (cw (g_E Γ) q r (gpl F) o0 A0 C0 h0 o1 A1 C1 h1 o2 A2 C2 h2 gs0 gA tb0 tA0 bf0 hi0) := by
    unfold pX10_firstGrade_w0 at h
    refine g_iconst (v := 0) K dX10_firstGrade_0 (by decide) ?_
    refine g_istore_n (L' := [(3, .int 0), (0, .ref (q 0)), (1, .int x1), (2, .int x2)]) K dX10_firstGrade_1 rfl (hlt _ (by decide)) rfl ?_
    refine g_sub (L' := [(0, .ref (q 0)), (1, .int x1), (2, .int x2), (3, .int 0)]) [1, 2, 3, 0] rfl ?_
    exact wX10_firstGrade_w0_2 (C0 := C0) (h0 := h0) (C1 := C1) (h1 := h1) (C2 := C2) (h2 := h2) (gs0 := gs0) (tb0 := tb0) (tA0 := tA0) (bf0 := bf0) (hi0 := hi0) hF K hlt hRm hret 1000 x1 x2 0 h

set_option maxRecDepth 100000 in
theorem ctX10_firstGrade_w0 {E : gE} {q : Nat → Nat} {r : Nat → Nat → Nat} {F : gF} (hF : gFz E F) (o0 : Nat → Int32) (A0 : Nat → Nat → Int32) (C0 : Nat → Option Nat) (h0 : Nat) (o1 : Nat → Int32) (A1 : Nat → Nat → Int32) (C1 : Nat → Option Nat) (h1 : Nat) (o2 : Nat → Int32) (A2 : Nat → Nat → Int32) (C2 : Nat → Option Nat) (h2 : Nat) (gs0 : Int32) (gA : Nat → Nat → Int32) (tb0 : Int32) (tA0 bf0 : Nat → Int32) (hi0 : Int32) (x1 : Int32) (x2 : Int32) {res : Int32} (h : pX10_firstGrade_w0 (o0 3) (A0 14) (A0 15) (A0 16) x1 x2 = some res) : gMi yX10_firstGrade (.code yX10_firstGrade cX10_firstGrade 4 (some .int) :: gU) ({ frames := 4, cells := 0, slots := 0, locals := 150 } : Room) 0 0 E [.ref (q 0), .int x1, .int x2] (cw E q r (gpl F) o0 A0 C0 h0 o1 A1 C1 h1 o2 A2 C2 h2 gs0 gA tb0 tA0 bf0 hi0) (fun v w => v = res ∧ w = cw E q r (gpl F) o0 A0 C0 h0 o1 A1 C1 h1 o2 A2 C2 h2 gs0 gA tb0 tA0 bf0 hi0) := by
  refine g_met_i (by decide +kernel) (Nat.le_of_ble_eq_true rfl) (fun Γ K hn hE hRm _ hret => ?_)
  subst hE
  have hlt : ∀ i, i < 4 → i < g_n Γ := fun i q => by rw [hn]; exact q
  refine g_sub (L' := [(0, .ref (q 0)), (1, .int x1), (2, .int x2)]) [0, 1, 2] rfl ?_
  exact wX10_firstGrade_w0 (C0 := C0) (h0 := h0) (C1 := C1) (h1 := h1) (C2 := C2) (h2 := h2) (gs0 := gs0) (tb0 := tb0) (tA0 := tA0) (bf0 := bf0) (hi0 := hi0) hF K hlt hRm hret x1 x2 h

set_option maxHeartbeats 4000000 in
set_option maxRecDepth 100000 in
theorem wX11_leans_40 {Γ : gT} {q : Nat → Nat} {r : Nat → Nat → Nat} {F : gF} (hF : gFz (g_E Γ) F) {o0 : Nat → Int32} {A0 : Nat → Nat → Int32} {C0 : Nat → Option Nat} {h0 : Nat} {o1 : Nat → Int32} {A1 : Nat → Nat → Int32} {C1 : Nat → Option Nat} {h1 : Nat} {o2 : Nat → Int32} {A2 : Nat → Nat → Int32} {C2 : Nat → Option Nat} {h2 : Nat} {gs0 : Int32} {gA : Nat → Nat → Int32} {tb0 : Int32} {tA0 bf0 : Nat → Int32} {hi0 : Int32} (K : gOK Γ cX11_leans gU RX11) (hlt : ∀ i, i < 9 → i < g_n Γ) (hRm : g_R Γ = ({ frames := 5, cells := 0, slots := 0, locals := 181 } : Room)) {res : Int64} (hret : ∀ (pc : Nat) (L : List (Nat × Value)) (v : Int64) (w : va_W), decode cX11_leans pc = .ok (.lreturn, 1) → (v = res ∧ w = cw (g_E Γ) q r (gpl F) o0 A0 C0 h0 o1 A1 C1 h1 o2 A2 C2 h2 gs0 gA tb0 tA0 bf0 hi0) → gGO Γ 0 0 pc L [.long v] w) : ∀ (n : Nat) (x1 : Int32) (x2 : Int32) (x3 : Int32) (x4 : Int32) (x5 : Int32) (x6 : Int32), pX11_leans_40 (o0 0) (o0 1) (o0 3) (A0 14) (A0 15) (A0 16) C0 n x1 x2 x3 x4 x5 x6 = some res → gGO Γ 0 0 40 [(0, .ref (q 5)), (1, .int x1), (2, .int x2), (3, .int x3), (4, .int x4), (5, .int x5), (6, .int x6)] [] (cw (g_E Γ) q r (gpl F) o0 A0 C0 h0 o1 A1 C1 h1 o2 A2 C2 h2 gs0 gA tb0 tA0 bf0 hi0) := by
  intro n
  induction n with
  | zero => intro _ _ _ _ _ _ h; cases h
  | succ n ih =>
    intro x1 x2 x3 x4 x5 x6 h
    simp only [pX11_leans_40] at h
    refine g_iload K dX11_leans_40 6 rfl ?_
    refine g_aload_n K dX11_leans_42 rfl 0 rfl ?_
    refine g_get (v := .ref (q 0)) (T := TX11) (ref := "ChiefGrades") K hin_X11 0 rfl rfl 0 (by decide) u_324 (Or.inl rfl) rfl dX11_leans_43 ?_
    refine g_get (v := .int (o0 0)) (T := TX10) (ref := "ChiefGrades$World") K hin_X10 1 rfl rfl 0 (by decide) u_160 (Or.inl rfl) rfl dX11_leans_46 ?_
    obtain ⟨ht9, hf9⟩ := gi_br h; clear h
    refine g_icmp_ge (tgt := 108) K dX11_leans_49 (by decide) (fun qh => ?_) (fun qh => ?_)
    · have h := ht9 qh; clear ht9 hf9
      refine g_iload K dX11_leans_108 4 rfl ?_
      refine g_i2l K dX11_leans_110 ?_
      refine g_iload K dX11_leans_111 5 rfl ?_
      refine g_i2l K dX11_leans_113 ?_
      refine g_iload_n K dX11_leans_114 rfl 3 rfl ?_
      obtain ⟨z_1, hz_1, h⟩ := gi_bd h
      refine g_callSl (As := [.long (Int32.toInt64 x4), .long (Int32.toInt64 x5), .int x3]) (bytes := cX11_lowest) (maxL := 12) (ret := (some .long)) K (ctX11_lowest (ws := cw (g_E Γ) q r (gpl F) o0 A0 C0 h0 o1 A1 C1 h1 o2 A2 C2 h2 gs0 gA tb0 tA0 bf0 hi0) (Int32.toInt64 x4) (Int32.toInt64 x5) x3 (res := z_1) hz_1) gc_S_RX11_203_X11_lowest rfl qs_X11_lowest hRm rfl rfl rfl (by decide) (Nat.le_of_ble_eq_true rfl) (by decide) dX11_leans_115 (fun v w hw => ?_)
      obtain ⟨hv9, rfl⟩ := hw; have hv9 := hv9.symm; subst hv9
      obtain rfl := Option.some.inj h
      exact hret _ _ _ _ dX11_leans_118 ⟨rfl, rfl⟩
    · have h := hf9 qh; clear ht9 hf9
      refine g_aload_n K dX11_leans_52 rfl 0 rfl ?_
      refine g_get (v := .ref (q 0)) (T := TX11) (ref := "ChiefGrades") K hin_X11 0 rfl rfl 0 (by decide) u_324 (Or.inl rfl) rfl dX11_leans_53 ?_
      refine g_iload K dX11_leans_56 6 rfl ?_
      refine g_iload_n K dX11_leans_58 rfl 1 rfl ?_
      obtain ⟨z_2, hz_2, h⟩ := gi_bd h
      refine g_callVi (As := [.int x6, .int x1]) (bytes := cX10_firstGrade) (maxL := 4) (ret := (some .int)) K (ctX10_firstGrade_w0 hF o0 A0 C0 h0 o1 A1 C1 h1 o2 A2 C2 h2 gs0 gA tb0 tA0 bf0 hi0 x6 x1 (res := z_2) hz_2) gc_V_RX11_225_X10_firstGrade rfl qv_X10_firstGrade 1 rfl rfl rfl hRm rfl rfl rfl (by decide) (Nat.le_of_ble_eq_true rfl) (by decide) dX11_leans_59 (fun v w hw => ?_)
      obtain ⟨hv9, rfl⟩ := hw; have hv9 := hv9.symm; subst hv9
      refine g_istore (L' := [(7, .int z_2), (0, .ref (q 5)), (1, .int x1), (2, .int x2), (3, .int x3), (4, .int x4), (5, .int x5), (6, .int x6)]) K dX11_leans_62 (hlt _ (by decide)) rfl ?_
      refine g_aload_n K dX11_leans_64 rfl 1 rfl ?_
      refine g_get (v := .ref (q 0)) (T := TX11) (ref := "ChiefGrades") K hin_X11 0 rfl rfl 0 (by decide) u_324 (Or.inl rfl) rfl dX11_leans_65 ?_
      refine g_iload K dX11_leans_68 7 rfl ?_
      refine g_iload_n K dX11_leans_70 rfl 3 rfl ?_
      obtain ⟨z_3, hz_3, h⟩ := gi_bd h
      refine g_callVi (As := [.int x6, .int x2]) (bytes := cX10_firstGrade) (maxL := 4) (ret := (some .int)) K (ctX10_firstGrade_w0 hF o0 A0 C0 h0 o1 A1 C1 h1 o2 A2 C2 h2 gs0 gA tb0 tA0 bf0 hi0 x6 x2 (res := z_3) hz_3) gc_V_RX11_225_X10_firstGrade rfl qv_X10_firstGrade 1 rfl rfl rfl hRm rfl rfl rfl (by decide) (Nat.le_of_ble_eq_true rfl) (by decide) dX11_leans_71 (fun v w hw => ?_)
      obtain ⟨hv9, rfl⟩ := hw; have hv9 := hv9.symm; subst hv9
      refine g_istore (L' := [(8, .int z_3), (7, .int z_2), (0, .ref (q 5)), (1, .int x1), (2, .int x2), (3, .int x3), (4, .int x4), (5, .int x5), (6, .int x6)]) K dX11_leans_74 (hlt _ (by decide)) rfl ?_
      refine g_iload K dX11_leans_76 1 rfl ?_
      obtain ⟨ht9, hf9⟩ := gi_br h; clear h
      refine g_if_eq (tgt := 102) K dX11_leans_78 (by decide) (fun qh => ?_) (fun qh => ?_)
      · have h := ht9 qh; clear ht9 hf9
        refine g_iinc (v := (x6 + 1)) (L' := [(6, .int (x6 + 1)), (8, .int z_3), (7, .int z_2), (0, .ref (q 5)), (1, .int x1), (2, .int x2), (3, .int x3), (4, .int x4), (5, .int x5)]) K dX11_leans_102 8 rfl rfl (hlt _ (by decide)) rfl ?_
        refine g_goto (tgt := 40) K dX11_leans_105 (by decide) ?_
        refine g_sub (L' := [(0, .ref (q 5)), (1, .int x1), (2, .int x2), (3, .int x3), (4, .int x4), (5, .int x5), (6, .int (x6 + 1))]) [3, 4, 5, 6, 7, 8, 0] rfl ?_
        exact ih x1 x2 x3 x4 x5 (x6 + 1) h
      · have h := hf9 qh; clear ht9 hf9
        refine g_iload K dX11_leans_81 0 rfl ?_
        obtain ⟨ht9, hf9⟩ := gi_br h; clear h
        refine g_if_ne (tgt := 89) K dX11_leans_83 (by decide) (fun qh => ?_) (fun qh => ?_)
        · have h := hf9 qh; clear ht9 hf9
          refine g_iload K dX11_leans_89 6 rfl ?_
          refine g_iload K dX11_leans_91 1 rfl ?_
          refine g_iload K dX11_leans_93 0 rfl ?_
          refine g_isub K dX11_leans_95 ?_
          refine g_iadd K dX11_leans_96 ?_
          obtain ⟨v_4, ev_4, h⟩ := gi_nm h
          refine g_topi ev_4 ?_
          refine g_istore (L' := [(4, .int v_4), (8, .int z_3), (7, .int z_2), (0, .ref (q 5)), (1, .int x1), (2, .int x2), (3, .int x3), (5, .int x5), (6, .int x6)]) K dX11_leans_97 (hlt _ (by decide)) rfl ?_
          refine g_iinc (v := (x5 + 1)) (L' := [(5, .int (x5 + 1)), (4, .int v_4), (8, .int z_3), (7, .int z_2), (0, .ref (q 5)), (1, .int x1), (2, .int x2), (3, .int x3), (6, .int x6)]) K dX11_leans_99 7 rfl rfl (hlt _ (by decide)) rfl ?_
          refine g_iinc (v := (x6 + 1)) (L' := [(6, .int (x6 + 1)), (5, .int (x5 + 1)), (4, .int v_4), (8, .int z_3), (7, .int z_2), (0, .ref (q 5)), (1, .int x1), (2, .int x2), (3, .int x3)]) K dX11_leans_102 8 rfl rfl (hlt _ (by decide)) rfl ?_
          refine g_goto (tgt := 40) K dX11_leans_105 (by decide) ?_
          refine g_sub (L' := [(0, .ref (q 5)), (1, .int x1), (2, .int x2), (3, .int x3), (4, .int v_4), (5, .int (x5 + 1)), (6, .int (x6 + 1))]) [5, 6, 7, 8, 2, 1, 0] rfl ?_
          exact ih x1 x2 x3 v_4 (x5 + 1) (x6 + 1) h
        · have h := ht9 qh; clear ht9 hf9
          refine g_goto (tgt := 102) K dX11_leans_86 (by decide) ?_
          refine g_iinc (v := (x6 + 1)) (L' := [(6, .int (x6 + 1)), (8, .int z_3), (7, .int z_2), (0, .ref (q 5)), (1, .int x1), (2, .int x2), (3, .int x3), (4, .int x4), (5, .int x5)]) K dX11_leans_102 8 rfl rfl (hlt _ (by decide)) rfl ?_
          refine g_goto (tgt := 40) K dX11_leans_105 (by decide) ?_
          refine g_sub (L' := [(0, .ref (q 5)), (1, .int x1), (2, .int x2), (3, .int x3), (4, .int x4), (5, .int x5), (6, .int (x6 + 1))]) [3, 4, 5, 6, 7, 8, 0] rfl ?_
          exact ih x1 x2 x3 x4 x5 (x6 + 1) h

set_option maxHeartbeats 4000000 in
set_option maxRecDepth 100000 in
theorem wX11_leans {Γ : gT} {q : Nat → Nat} {r : Nat → Nat → Nat} {F : gF} (hF : gFz (g_E Γ) F) {o0 : Nat → Int32} {A0 : Nat → Nat → Int32} {C0 : Nat → Option Nat} {h0 : Nat} {o1 : Nat → Int32} {A1 : Nat → Nat → Int32} {C1 : Nat → Option Nat} {h1 : Nat} {o2 : Nat → Int32} {A2 : Nat → Nat → Int32} {C2 : Nat → Option Nat} {h2 : Nat} {gs0 : Int32} {gA : Nat → Nat → Int32} {tb0 : Int32} {tA0 bf0 : Nat → Int32} {hi0 : Int32} (K : gOK Γ cX11_leans gU RX11) (hlt : ∀ i, i < 9 → i < g_n Γ) (hRm : g_R Γ = ({ frames := 5, cells := 0, slots := 0, locals := 181 } : Room)) {res : Int64} (hret : ∀ (pc : Nat) (L : List (Nat × Value)) (v : Int64) (w : va_W), decode cX11_leans pc = .ok (.lreturn, 1) → (v = res ∧ w = cw (g_E Γ) q r (gpl F) o0 A0 C0 h0 o1 A1 C1 h1 o2 A2 C2 h2 gs0 gA tb0 tA0 bf0 hi0) → gGO Γ 0 0 pc L [.long v] w) (x1 : Int32) (x2 : Int32) (x3 : Int32) (h : pX11_leans (o0 0) (o0 1) (o0 3) (A0 14) (A0 15) (A0 16) C0 x1 x2 x3 = some res) : gGO Γ 0 0 0 [(0, .ref (q 5)), (1, .int x1), (2, .int x2), (3, .int x3)] [] (cw (g_E Γ) q r (gpl F) o0 A0 C0 h0 o1 A1 C1 h1 o2 A2 C2 h2 gs0 gA tb0 tA0 bf0 hi0) := by
    unfold pX11_leans at h
    refine g_aload_n K dX11_leans_0 rfl 0 rfl ?_
    refine g_get (v := .ref (q 0)) (T := TX11) (ref := "ChiefGrades") K hin_X11 0 rfl rfl 0 (by decide) u_324 (Or.inl rfl) rfl dX11_leans_1 ?_
    refine g_iload_n K dX11_leans_4 rfl 1 rfl ?_
    obtain ⟨z_1, hz_1, h⟩ := gi_bd h
    refine g_callVq (As := [.int x1]) (bytes := cX10_chiefAt) (maxL := 2) (ret := (some (.object "ChiefGrades$Chief"))) K (ctX10_chiefAt_w0 hF o0 A0 C0 h0 o1 A1 C1 h1 o2 A2 C2 h2 gs0 gA tb0 tA0 bf0 hi0 x1 (res := z_1) hz_1) gc_V_RX11_101_X10_chiefAt rfl qv_X10_chiefAt 1 rfl rfl rfl hRm rfl rfl rfl (by decide) (Nat.le_of_ble_eq_true rfl) (by decide) dX11_leans_5 (fun v w hw => ?_)
    obtain ⟨hv9, rfl⟩ := hw; have hv9 := hv9.symm; subst hv9
    rcases gi_mt h with ⟨ez, h⟩ | ⟨b_z1, ez, h⟩
    · rw [ez]
      refine g_ifnullN (tgt := 27) K dX11_leans_8 (by decide) ?_
      refine g_ldc2 (v := (-9223372036854775808)) K u_820 dX11_leans_27 ?_
      obtain rfl := Option.some.inj h
      exact hret _ _ _ _ dX11_leans_30 ⟨rfl, rfl⟩
    · rw [ez]
      refine g_ifnull K dX11_leans_8 ?_
      refine g_aload_n K dX11_leans_11 rfl 0 rfl ?_
      refine g_get (v := .ref (q 0)) (T := TX11) (ref := "ChiefGrades") K hin_X11 0 rfl rfl 0 (by decide) u_324 (Or.inl rfl) rfl dX11_leans_12 ?_
      refine g_iload_n K dX11_leans_15 rfl 2 rfl ?_
      obtain ⟨z_2, hz_2, h⟩ := gi_bd h
      refine g_callVq (As := [.int x2]) (bytes := cX10_chiefAt) (maxL := 2) (ret := (some (.object "ChiefGrades$Chief"))) K (ctX10_chiefAt_w0 hF o0 A0 C0 h0 o1 A1 C1 h1 o2 A2 C2 h2 gs0 gA tb0 tA0 bf0 hi0 x2 (res := z_2) hz_2) gc_V_RX11_101_X10_chiefAt rfl qv_X10_chiefAt 1 rfl rfl rfl hRm rfl rfl rfl (by decide) (Nat.le_of_ble_eq_true rfl) (by decide) dX11_leans_16 (fun v w hw => ?_)
      obtain ⟨hv9, rfl⟩ := hw; have hv9 := hv9.symm; subst hv9
      rcases gi_mt h with ⟨ez, h⟩ | ⟨b_z2, ez, h⟩
      · rw [ez]
        refine g_ifnullN (tgt := 27) K dX11_leans_19 (by decide) ?_
        refine g_ldc2 (v := (-9223372036854775808)) K u_820 dX11_leans_27 ?_
        obtain rfl := Option.some.inj h
        exact hret _ _ _ _ dX11_leans_30 ⟨rfl, rfl⟩
      · rw [ez]
        refine g_ifnull K dX11_leans_19 ?_
        refine g_iload_n K dX11_leans_22 rfl 1 rfl ?_
        refine g_iload_n K dX11_leans_23 rfl 2 rfl ?_
        obtain ⟨ht9, hf9⟩ := gi_br h; clear h
        refine g_icmp_ne (tgt := 31) K dX11_leans_24 (by decide) (fun qh => ?_) (fun qh => ?_)
        · have h := hf9 qh; clear ht9 hf9
          refine g_iconst (v := 0) K dX11_leans_31 (by decide) ?_
          refine g_istore (L' := [(4, .int 0), (0, .ref (q 5)), (1, .int x1), (2, .int x2), (3, .int x3)]) K dX11_leans_32 (hlt _ (by decide)) rfl ?_
          refine g_iconst (v := 0) K dX11_leans_34 (by decide) ?_
          refine g_istore (L' := [(5, .int 0), (4, .int 0), (0, .ref (q 5)), (1, .int x1), (2, .int x2), (3, .int x3)]) K dX11_leans_35 (hlt _ (by decide)) rfl ?_
          refine g_iconst (v := 0) K dX11_leans_37 (by decide) ?_
          refine g_istore (L' := [(6, .int 0), (5, .int 0), (4, .int 0), (0, .ref (q 5)), (1, .int x1), (2, .int x2), (3, .int x3)]) K dX11_leans_38 (hlt _ (by decide)) rfl ?_
          refine g_sub (L' := [(0, .ref (q 5)), (1, .int x1), (2, .int x2), (3, .int x3), (4, .int 0), (5, .int 0), (6, .int 0)]) [3, 4, 5, 6, 2, 1, 0] rfl ?_
          exact wX11_leans_40 (C0 := C0) (h0 := h0) (C1 := C1) (h1 := h1) (C2 := C2) (h2 := h2) (gs0 := gs0) (tb0 := tb0) (tA0 := tA0) (bf0 := bf0) (hi0 := hi0) hF K hlt hRm hret 1000 x1 x2 x3 0 0 0 h
        · have h := ht9 qh; clear ht9 hf9
          refine g_ldc2 (v := (-9223372036854775808)) K u_820 dX11_leans_27 ?_
          obtain rfl := Option.some.inj h
          exact hret _ _ _ _ dX11_leans_30 ⟨rfl, rfl⟩

set_option maxRecDepth 100000 in
theorem ctX11_leans {E : gE} {q : Nat → Nat} {r : Nat → Nat → Nat} {F : gF} (hF : gFz E F) (o0 : Nat → Int32) (A0 : Nat → Nat → Int32) (C0 : Nat → Option Nat) (h0 : Nat) (o1 : Nat → Int32) (A1 : Nat → Nat → Int32) (C1 : Nat → Option Nat) (h1 : Nat) (o2 : Nat → Int32) (A2 : Nat → Nat → Int32) (C2 : Nat → Option Nat) (h2 : Nat) (gs0 : Int32) (gA : Nat → Nat → Int32) (tb0 : Int32) (tA0 bf0 : Nat → Int32) (hi0 : Int32) (x1 : Int32) (x2 : Int32) (x3 : Int32) {res : Int64} (h : pX11_leans (o0 0) (o0 1) (o0 3) (A0 14) (A0 15) (A0 16) C0 x1 x2 x3 = some res) : gMl yX11_leans (.code yX11_leans cX11_leans 9 (some .long) :: gU) ({ frames := 5, cells := 0, slots := 0, locals := 181 } : Room) 0 0 E [.ref (q 5), .int x1, .int x2, .int x3] (cw E q r (gpl F) o0 A0 C0 h0 o1 A1 C1 h1 o2 A2 C2 h2 gs0 gA tb0 tA0 bf0 hi0) (fun v w => v = res ∧ w = cw E q r (gpl F) o0 A0 C0 h0 o1 A1 C1 h1 o2 A2 C2 h2 gs0 gA tb0 tA0 bf0 hi0) := by
  refine g_met_l (by decide +kernel) (Nat.le_of_ble_eq_true rfl) (fun Γ K hn hE hRm _ hret => ?_)
  subst hE
  have hlt : ∀ i, i < 9 → i < g_n Γ := fun i q => by rw [hn]; exact q
  refine g_sub (L' := [(0, .ref (q 5)), (1, .int x1), (2, .int x2), (3, .int x3)]) [0, 1, 2, 3] rfl ?_
  exact wX11_leans (C0 := C0) (h0 := h0) (C1 := C1) (h1 := h1) (C2 := C2) (h2 := h2) (gs0 := gs0) (tb0 := tb0) (tA0 := tA0) (bf0 := bf0) (hi0 := hi0) hF K hlt hRm hret x1 x2 x3 h

set_option maxHeartbeats 4000000 in
set_option maxRecDepth 100000 in
theorem wX11_looked_2 {Γ : gT} {q : Nat → Nat} {r : Nat → Nat → Nat} {F : gF} (hF : gFz (g_E Γ) F) {o0 : Nat → Int32} {A0 : Nat → Nat → Int32} {C0 : Nat → Option Nat} {h0 : Nat} {o1 : Nat → Int32} {A1 : Nat → Nat → Int32} {C1 : Nat → Option Nat} {h1 : Nat} {o2 : Nat → Int32} {A2 : Nat → Nat → Int32} {C2 : Nat → Option Nat} {h2 : Nat} {gs0 : Int32} {gA : Nat → Nat → Int32} {tb0 : Int32} {tA0 bf0 : Nat → Int32} {hi0 : Int32} (K : gOK Γ cX11_looked gU RX11) (hlt : ∀ i, i < 3 → i < g_n Γ) (hRm : g_R Γ = ({ frames := 11, cells := 0, slots := 0, locals := 305 } : Room)) {res : Int32 × Int32 × Int32 × Int32 × Int32 × Int32 × Int32 × Int32 × Int32 × ((Nat → Int32)) × ((Nat → Int32)) × ((Nat → Int32)) × ((Nat → Int32)) × ((Nat → Int32)) × ((Nat → Int32)) × ((Nat → Int32)) × ((Nat → Int32)) × ((Nat → Int32)) × Nat × ((Nat → Option Nat)) × Int32 × ((Nat → Int32)) × ((Nat → Int32)) × ((Nat → Int32)) × ((Nat → Int32)) × ((Nat → Int32))} (hret : ∀ (pc : Nat) (L : List (Nat × Value)) (v : Int32) (w : va_W), decode cX11_looked pc = .ok (.ireturn, 1) → narrow .int (.int v) = .int v → (v = res.1 ∧ w = cw (g_E Γ) q r (gpl F) o0 A0 C0 h0 (gu (gu (gu (gu (gu (gu (gu (gu o1 0 res.2.1) 1 res.2.2.1) 2 res.2.2.2.1) 3 res.2.2.2.2.1) 4 res.2.2.2.2.2.1) 5 res.2.2.2.2.2.2.1) 6 res.2.2.2.2.2.2.2.1) 7 res.2.2.2.2.2.2.2.2.1) (gu (gu (gu (gu (gu (gu (gu (gu (gu A1 8 res.2.2.2.2.2.2.2.2.2.1) 9 res.2.2.2.2.2.2.2.2.2.2.1) 10 res.2.2.2.2.2.2.2.2.2.2.2.1) 11 res.2.2.2.2.2.2.2.2.2.2.2.2.1) 12 res.2.2.2.2.2.2.2.2.2.2.2.2.2.1) 14 res.2.2.2.2.2.2.2.2.2.2.2.2.2.2.1) 15 res.2.2.2.2.2.2.2.2.2.2.2.2.2.2.2.1) 16 res.2.2.2.2.2.2.2.2.2.2.2.2.2.2.2.2.1) 17 res.2.2.2.2.2.2.2.2.2.2.2.2.2.2.2.2.2.1) res.2.2.2.2.2.2.2.2.2.2.2.2.2.2.2.2.2.2.2.1 res.2.2.2.2.2.2.2.2.2.2.2.2.2.2.2.2.2.2.1 o2 A2 C2 h2 res.2.2.2.2.2.2.2.2.2.2.2.2.2.2.2.2.2.2.2.2.1 (gu (gu (gu (gu (gu gA 0 res.2.2.2.2.2.2.2.2.2.2.2.2.2.2.2.2.2.2.2.2.2.1) 1 res.2.2.2.2.2.2.2.2.2.2.2.2.2.2.2.2.2.2.2.2.2.2.1) 2 res.2.2.2.2.2.2.2.2.2.2.2.2.2.2.2.2.2.2.2.2.2.2.2.1) 3 res.2.2.2.2.2.2.2.2.2.2.2.2.2.2.2.2.2.2.2.2.2.2.2.2.1) 5 res.2.2.2.2.2.2.2.2.2.2.2.2.2.2.2.2.2.2.2.2.2.2.2.2.2) tb0 tA0 bf0 hi0) → gGO Γ 0 0 pc L [.int v] w) : ∀ (n : Nat) (w1o0 : Int32) (w1o1 : Int32) (w1o2 : Int32) (w1o3 : Int32) (w1o4 : Int32) (w1o5 : Int32) (w1o6 : Int32) (w1o7 : Int32) (w1a8 : (Nat → Int32)) (w1a9 : (Nat → Int32)) (w1a10 : (Nat → Int32)) (w1a11 : (Nat → Int32)) (w1a12 : (Nat → Int32)) (w1a14 : (Nat → Int32)) (w1a15 : (Nat → Int32)) (w1a16 : (Nat → Int32)) (w1a17 : (Nat → Int32)) (w1h : Nat) (w1c : (Nat → Option Nat)) (gs : Int32) (ga0 : (Nat → Int32)) (ga1 : (Nat → Int32)) (ga2 : (Nat → Int32)) (ga3 : (Nat → Int32)) (ga5 : (Nat → Int32)) (x1 : Int32), pX11_looked_2 F (o0 0) (o0 1) (o0 2) (o0 3) (o0 4) (o0 5) (o0 6) (o0 7) (A0 8) (A0 9) (A0 10) (A0 11) (A0 12) (A0 14) (A0 15) (A0 16) (A0 17) h0 C0 n w1o0 w1o1 w1o2 w1o3 w1o4 w1o5 w1o6 w1o7 w1a8 w1a9 w1a10 w1a11 w1a12 w1a14 w1a15 w1a16 w1a17 w1h w1c gs ga0 ga1 ga2 ga3 ga5 x1 = some res → gGO Γ 0 0 2 [(0, .ref (q 5)), (1, .int x1)] [] (cw (g_E Γ) q r (gpl F) o0 A0 C0 h0 (gu (gu (gu (gu (gu (gu (gu (gu o1 0 w1o0) 1 w1o1) 2 w1o2) 3 w1o3) 4 w1o4) 5 w1o5) 6 w1o6) 7 w1o7) (gu (gu (gu (gu (gu (gu (gu (gu (gu A1 8 w1a8) 9 w1a9) 10 w1a10) 11 w1a11) 12 w1a12) 14 w1a14) 15 w1a15) 16 w1a16) 17 w1a17) w1c w1h o2 A2 C2 h2 gs (gu (gu (gu (gu (gu gA 0 ga0) 1 ga1) 2 ga2) 3 ga3) 5 ga5) tb0 tA0 bf0 hi0) := by
  intro n
  induction n with
  | zero => intro _ _ _ _ _ _ _ _ _ _ _ _ _ _ _ _ _ _ _ _ _ _ _ _ _ _ h; cases h
  | succ n ih =>
    intro w1o0 w1o1 w1o2 w1o3 w1o4 w1o5 w1o6 w1o7 w1a8 w1a9 w1a10 w1a11 w1a12 w1a14 w1a15 w1a16 w1a17 w1h w1c gs ga0 ga1 ga2 ga3 ga5 x1 h
    simp only [pX11_looked_2] at h
    refine g_iload_n K dX11_looked_2 rfl 1 rfl ?_
    refine g_aload_n K dX11_looked_3 rfl 0 rfl ?_
    refine g_get (v := .ref (q 0)) (T := TX11) (ref := "ChiefGrades") K hin_X11 0 rfl rfl 0 (by decide) u_324 (Or.inl rfl) rfl dX11_looked_4 ?_
    refine g_get (v := .int (o0 3)) (T := TX10) (ref := "ChiefGrades$World") K hin_X10 1 rfl rfl 3 (by decide) u_167 (Or.inl rfl) rfl dX11_looked_7 ?_
    obtain ⟨ht9, hf9⟩ := gi_br h; clear h
    refine g_icmp_ge (tgt := 77) K dX11_looked_10 (by decide) (fun qh => ?_) (fun qh => ?_)
    · have h := ht9 qh; clear ht9 hf9
      refine g_bipush (v := (-5)) K dX11_looked_77 (by decide) ?_
      obtain rfl := Option.some.inj h
      exact hret _ _ _ _ dX11_looked_79 rfl ⟨rfl, rfl⟩
    · have h := hf9 qh; clear ht9 hf9
      refine g_iload_n K dX11_looked_13 rfl 1 rfl ?_
      refine g_bipush (v := 20) K dX11_looked_14 (by decide) ?_
      obtain ⟨ht9, hf9⟩ := gi_br h; clear h
      refine g_icmp_ge (tgt := 77) K dX11_looked_16 (by decide) (fun qh => ?_) (fun qh => ?_)
      · have h := ht9 qh; clear ht9 hf9
        refine g_bipush (v := (-5)) K dX11_looked_77 (by decide) ?_
        obtain rfl := Option.some.inj h
        exact hret _ _ _ _ dX11_looked_79 rfl ⟨rfl, rfl⟩
      · have h := hf9 qh; clear ht9 hf9
        refine g_aload_n K dX11_looked_19 rfl 0 rfl ?_
        refine g_get (v := .ref (q 0)) (T := TX11) (ref := "ChiefGrades") K hin_X11 0 rfl rfl 0 (by decide) u_324 (Or.inl rfl) rfl dX11_looked_20 ?_
        refine g_aload_n K dX11_looked_23 rfl 0 rfl ?_
        refine g_get (v := .ref (q 0)) (T := TX11) (ref := "ChiefGrades") K hin_X11 0 rfl rfl 0 (by decide) u_324 (Or.inl rfl) rfl dX11_looked_24 ?_
        refine g_get (v := .ref (r 0 15)) (T := TX10) (ref := "ChiefGrades$World") K hin_X10 1 rfl rfl 15 (by decide) u_196 (Or.inl rfl) rfl dX11_looked_27 ?_
        refine g_iload_n K dX11_looked_30 rfl 1 rfl ?_
        obtain ⟨b_1, h⟩ := gi_none h
        refine g_iald (f := (A0 15)) K 13 rfl (ginb_in b_1) dX11_looked_31 ?_
        obtain ⟨z_2, hz_2, h⟩ := gi_bd h
        refine g_callVq (As := [.int ((A0 15) (Int32.toNatClampNeg x1))]) (bytes := cX10_chiefAt) (maxL := 2) (ret := (some (.object "ChiefGrades$Chief"))) K (ctX10_chiefAt_w0 hF o0 A0 C0 h0 (gu (gu (gu (gu (gu (gu (gu (gu o1 0 w1o0) 1 w1o1) 2 w1o2) 3 w1o3) 4 w1o4) 5 w1o5) 6 w1o6) 7 w1o7) (gu (gu (gu (gu (gu (gu (gu (gu (gu A1 8 w1a8) 9 w1a9) 10 w1a10) 11 w1a11) 12 w1a12) 14 w1a14) 15 w1a15) 16 w1a16) 17 w1a17) w1c w1h o2 A2 C2 h2 gs (gu (gu (gu (gu (gu gA 0 ga0) 1 ga1) 2 ga2) 3 ga3) 5 ga5) tb0 tA0 bf0 hi0 ((A0 15) (Int32.toNatClampNeg x1)) (res := z_2) hz_2) gc_V_RX11_101_X10_chiefAt rfl qv_X10_chiefAt 1 rfl rfl rfl hRm rfl rfl rfl (by decide) (Nat.le_of_ble_eq_true rfl) (by decide) dX11_looked_32 (fun v w hw => ?_)
        obtain ⟨hv9, rfl⟩ := hw; have hv9 := hv9.symm; subst hv9
        rcases gi_mt h with ⟨ez, h⟩ | ⟨b_z2, ez, h⟩
        · rw [ez]
          refine g_astore_nN (L' := [(2, .null), (0, .ref (q 5)), (1, .int x1)]) K dX11_looked_35 rfl (hlt _ (by decide)) rfl ?_
          refine g_aload_nN K dX11_looked_36 rfl 0 rfl ?_
          refine g_ifnonnullN K dX11_looked_37 ?_
          refine g_goto (tgt := 71) K dX11_looked_40 (by decide) ?_
          refine g_iinc (v := (x1 + 1)) (L' := [(1, .int (x1 + 1)), (2, .null), (0, .ref (q 5))]) K dX11_looked_71 2 rfl rfl (hlt _ (by decide)) rfl ?_
          refine g_goto (tgt := 2) K dX11_looked_74 (by decide) ?_
          refine g_sub (L' := [(0, .ref (q 5)), (1, .int (x1 + 1))]) [2, 0] rfl ?_
          exact ih w1o0 w1o1 w1o2 w1o3 w1o4 w1o5 w1o6 w1o7 w1a8 w1a9 w1a10 w1a11 w1a12 w1a14 w1a15 w1a16 w1a17 w1h w1c gs ga0 ga1 ga2 ga3 ga5 (x1 + 1) h
        · rw [ez]
          refine g_astore_n (L' := [(2, .ref b_z2), (0, .ref (q 5)), (1, .int x1)]) K dX11_looked_35 rfl (hlt _ (by decide)) rfl ?_
          refine g_aload_n K dX11_looked_36 rfl 0 rfl ?_
          refine g_ifnonnull (tgt := 43) K dX11_looked_37 (by decide) ?_
          refine g_aload_n K dX11_looked_43 rfl 1 rfl ?_
          refine g_aload_n K dX11_looked_44 rfl 1 rfl ?_
          refine g_get (v := .ref (q 0)) (T := TX11) (ref := "ChiefGrades") K hin_X11 0 rfl rfl 0 (by decide) u_324 (Or.inl rfl) rfl dX11_looked_45 ?_
          refine g_get (v := .ref (r 0 14)) (T := TX10) (ref := "ChiefGrades$World") K hin_X10 1 rfl rfl 14 (by decide) u_194 (Or.inl rfl) rfl dX11_looked_48 ?_
          refine g_iload_n K dX11_looked_51 rfl 2 rfl ?_
          obtain ⟨b_3, h⟩ := gi_none h
          refine g_iald (f := (A0 14)) K 12 rfl (ginb_in b_3) dX11_looked_52 ?_
          refine g_aload_n K dX11_looked_53 rfl 0 rfl ?_
          obtain ⟨z_4, hz_4, h⟩ := gi_bd h
          refine g_callVi (As := [.int ((A0 14) (Int32.toNatClampNeg x1)), .ref b_z2]) (bytes := cX11_gradeUnder) (maxL := 3) (ret := (some .int)) K (ctX11_gradeUnder hF o0 A0 C0 h0 (gu (gu (gu (gu (gu (gu (gu (gu o1 0 w1o0) 1 w1o1) 2 w1o2) 3 w1o3) 4 w1o4) 5 w1o5) 6 w1o6) 7 w1o7) (gu (gu (gu (gu (gu (gu (gu (gu (gu A1 8 w1a8) 9 w1a9) 10 w1a10) 11 w1a11) 12 w1a12) 14 w1a14) 15 w1a15) 16 w1a16) 17 w1a17) w1c w1h o2 A2 C2 h2 gs (gu (gu (gu (gu (gu gA 0 ga0) 1 ga1) 2 ga2) 3 ga3) 5 ga5) tb0 tA0 bf0 hi0 ((A0 14) (Int32.toNatClampNeg x1)) b_z2 (res := z_4) hz_4) gc_V_RX11_174_X11_gradeUnder rfl qv_X11_gradeUnder 0 rfl rfl rfl hRm rfl rfl rfl (by decide) (Nat.le_of_ble_eq_true rfl) (by decide) dX11_looked_54 (fun v w hw => ?_)
          obtain ⟨hv9, rfl⟩ := hw; have hv9 := hv9.symm; subst hv9
          refine g_ws (ws' := cw (g_E Γ) q r (gpl F) o0 A0 C0 h0 (gu (gu (gu (gu (gu (gu (gu (gu o1 0 z_4.2.1) 1 z_4.2.2.1) 2 z_4.2.2.2.1) 3 z_4.2.2.2.2.1) 4 z_4.2.2.2.2.2.1) 5 z_4.2.2.2.2.2.2.1) 6 z_4.2.2.2.2.2.2.2.1) 7 z_4.2.2.2.2.2.2.2.2.1) (gu (gu (gu (gu (gu (gu (gu (gu (gu A1 8 z_4.2.2.2.2.2.2.2.2.2.1) 9 z_4.2.2.2.2.2.2.2.2.2.2.1) 10 z_4.2.2.2.2.2.2.2.2.2.2.2.1) 11 z_4.2.2.2.2.2.2.2.2.2.2.2.2.1) 12 z_4.2.2.2.2.2.2.2.2.2.2.2.2.2.1) 14 z_4.2.2.2.2.2.2.2.2.2.2.2.2.2.2.1) 15 z_4.2.2.2.2.2.2.2.2.2.2.2.2.2.2.2.1) 16 z_4.2.2.2.2.2.2.2.2.2.2.2.2.2.2.2.2.1) 17 z_4.2.2.2.2.2.2.2.2.2.2.2.2.2.2.2.2.2.1) z_4.2.2.2.2.2.2.2.2.2.2.2.2.2.2.2.2.2.2.2.1 z_4.2.2.2.2.2.2.2.2.2.2.2.2.2.2.2.2.2.2.1 o2 A2 C2 h2 z_4.2.2.2.2.2.2.2.2.2.2.2.2.2.2.2.2.2.2.2.2.1 (gu (gu (gu (gu (gu gA 0 z_4.2.2.2.2.2.2.2.2.2.2.2.2.2.2.2.2.2.2.2.2.2.1) 1 z_4.2.2.2.2.2.2.2.2.2.2.2.2.2.2.2.2.2.2.2.2.2.2.1) 2 z_4.2.2.2.2.2.2.2.2.2.2.2.2.2.2.2.2.2.2.2.2.2.2.2.1) 3 z_4.2.2.2.2.2.2.2.2.2.2.2.2.2.2.2.2.2.2.2.2.2.2.2.2.1) 5 z_4.2.2.2.2.2.2.2.2.2.2.2.2.2.2.2.2.2.2.2.2.2.2.2.2.2) tb0 tA0 bf0 hi0) rfl ?_
          refine g_aload_n K dX11_looked_57 rfl 1 rfl ?_
          refine g_get (v := .ref (q 0)) (T := TX11) (ref := "ChiefGrades") K hin_X11 0 rfl rfl 0 (by decide) u_324 (Or.inl rfl) rfl dX11_looked_58 ?_
          refine g_get (v := .ref (r 0 16)) (T := TX10) (ref := "ChiefGrades$World") K hin_X10 1 rfl rfl 16 (by decide) u_198 (Or.inl rfl) rfl dX11_looked_61 ?_
          refine g_iload_n K dX11_looked_64 rfl 2 rfl ?_
          obtain ⟨b_5, h⟩ := gi_none h
          refine g_iald (f := (A0 16)) K 14 rfl (ginb_in b_5) dX11_looked_65 ?_
          obtain ⟨ht9, hf9⟩ := gi_br h; clear h
          refine g_icmp_eq (tgt := 71) K dX11_looked_66 (by decide) (fun qh => ?_) (fun qh => ?_)
          · have h := ht9 qh; clear ht9 hf9
            refine g_iinc (v := (x1 + 1)) (L' := [(1, .int (x1 + 1)), (2, .ref b_z2), (0, .ref (q 5))]) K dX11_looked_71 2 rfl rfl (hlt _ (by decide)) rfl ?_
            refine g_goto (tgt := 2) K dX11_looked_74 (by decide) ?_
            refine g_sub (L' := [(0, .ref (q 5)), (1, .int (x1 + 1))]) [2, 0] rfl ?_
            exact ih z_4.2.1 z_4.2.2.1 z_4.2.2.2.1 z_4.2.2.2.2.1 z_4.2.2.2.2.2.1 z_4.2.2.2.2.2.2.1 z_4.2.2.2.2.2.2.2.1 z_4.2.2.2.2.2.2.2.2.1 z_4.2.2.2.2.2.2.2.2.2.1 z_4.2.2.2.2.2.2.2.2.2.2.1 z_4.2.2.2.2.2.2.2.2.2.2.2.1 z_4.2.2.2.2.2.2.2.2.2.2.2.2.1 z_4.2.2.2.2.2.2.2.2.2.2.2.2.2.1 z_4.2.2.2.2.2.2.2.2.2.2.2.2.2.2.1 z_4.2.2.2.2.2.2.2.2.2.2.2.2.2.2.2.1 z_4.2.2.2.2.2.2.2.2.2.2.2.2.2.2.2.2.1 z_4.2.2.2.2.2.2.2.2.2.2.2.2.2.2.2.2.2.1 z_4.2.2.2.2.2.2.2.2.2.2.2.2.2.2.2.2.2.2.1 z_4.2.2.2.2.2.2.2.2.2.2.2.2.2.2.2.2.2.2.2.1 z_4.2.2.2.2.2.2.2.2.2.2.2.2.2.2.2.2.2.2.2.2.1 z_4.2.2.2.2.2.2.2.2.2.2.2.2.2.2.2.2.2.2.2.2.2.1 z_4.2.2.2.2.2.2.2.2.2.2.2.2.2.2.2.2.2.2.2.2.2.2.1 z_4.2.2.2.2.2.2.2.2.2.2.2.2.2.2.2.2.2.2.2.2.2.2.2.1 z_4.2.2.2.2.2.2.2.2.2.2.2.2.2.2.2.2.2.2.2.2.2.2.2.2.1 z_4.2.2.2.2.2.2.2.2.2.2.2.2.2.2.2.2.2.2.2.2.2.2.2.2.2 (x1 + 1) h
          · have h := hf9 qh; clear ht9 hf9
            refine g_iload_n K dX11_looked_69 rfl 2 rfl ?_
            obtain rfl := Option.some.inj h
            exact hret _ _ _ _ dX11_looked_70 rfl ⟨rfl, rfl⟩

set_option maxHeartbeats 4000000 in
set_option maxRecDepth 100000 in
theorem wX11_looked {Γ : gT} {q : Nat → Nat} {r : Nat → Nat → Nat} {F : gF} (hF : gFz (g_E Γ) F) {o0 : Nat → Int32} {A0 : Nat → Nat → Int32} {C0 : Nat → Option Nat} {h0 : Nat} {o1 : Nat → Int32} {A1 : Nat → Nat → Int32} {C1 : Nat → Option Nat} {h1 : Nat} {o2 : Nat → Int32} {A2 : Nat → Nat → Int32} {C2 : Nat → Option Nat} {h2 : Nat} {gs0 : Int32} {gA : Nat → Nat → Int32} {tb0 : Int32} {tA0 bf0 : Nat → Int32} {hi0 : Int32} (K : gOK Γ cX11_looked gU RX11) (hlt : ∀ i, i < 3 → i < g_n Γ) (hRm : g_R Γ = ({ frames := 11, cells := 0, slots := 0, locals := 305 } : Room)) {res : Int32 × Int32 × Int32 × Int32 × Int32 × Int32 × Int32 × Int32 × Int32 × ((Nat → Int32)) × ((Nat → Int32)) × ((Nat → Int32)) × ((Nat → Int32)) × ((Nat → Int32)) × ((Nat → Int32)) × ((Nat → Int32)) × ((Nat → Int32)) × ((Nat → Int32)) × Nat × ((Nat → Option Nat)) × Int32 × ((Nat → Int32)) × ((Nat → Int32)) × ((Nat → Int32)) × ((Nat → Int32)) × ((Nat → Int32))} (hret : ∀ (pc : Nat) (L : List (Nat × Value)) (v : Int32) (w : va_W), decode cX11_looked pc = .ok (.ireturn, 1) → narrow .int (.int v) = .int v → (v = res.1 ∧ w = cw (g_E Γ) q r (gpl F) o0 A0 C0 h0 (gu (gu (gu (gu (gu (gu (gu (gu o1 0 res.2.1) 1 res.2.2.1) 2 res.2.2.2.1) 3 res.2.2.2.2.1) 4 res.2.2.2.2.2.1) 5 res.2.2.2.2.2.2.1) 6 res.2.2.2.2.2.2.2.1) 7 res.2.2.2.2.2.2.2.2.1) (gu (gu (gu (gu (gu (gu (gu (gu (gu A1 8 res.2.2.2.2.2.2.2.2.2.1) 9 res.2.2.2.2.2.2.2.2.2.2.1) 10 res.2.2.2.2.2.2.2.2.2.2.2.1) 11 res.2.2.2.2.2.2.2.2.2.2.2.2.1) 12 res.2.2.2.2.2.2.2.2.2.2.2.2.2.1) 14 res.2.2.2.2.2.2.2.2.2.2.2.2.2.2.1) 15 res.2.2.2.2.2.2.2.2.2.2.2.2.2.2.2.1) 16 res.2.2.2.2.2.2.2.2.2.2.2.2.2.2.2.2.1) 17 res.2.2.2.2.2.2.2.2.2.2.2.2.2.2.2.2.2.1) res.2.2.2.2.2.2.2.2.2.2.2.2.2.2.2.2.2.2.2.1 res.2.2.2.2.2.2.2.2.2.2.2.2.2.2.2.2.2.2.1 o2 A2 C2 h2 res.2.2.2.2.2.2.2.2.2.2.2.2.2.2.2.2.2.2.2.2.1 (gu (gu (gu (gu (gu gA 0 res.2.2.2.2.2.2.2.2.2.2.2.2.2.2.2.2.2.2.2.2.2.1) 1 res.2.2.2.2.2.2.2.2.2.2.2.2.2.2.2.2.2.2.2.2.2.2.1) 2 res.2.2.2.2.2.2.2.2.2.2.2.2.2.2.2.2.2.2.2.2.2.2.2.1) 3 res.2.2.2.2.2.2.2.2.2.2.2.2.2.2.2.2.2.2.2.2.2.2.2.2.1) 5 res.2.2.2.2.2.2.2.2.2.2.2.2.2.2.2.2.2.2.2.2.2.2.2.2.2) tb0 tA0 bf0 hi0) → gGO Γ 0 0 pc L [.int v] w) (w1o0 : Int32) (w1o1 : Int32) (w1o2 : Int32) (w1o3 : Int32) (w1o4 : Int32) (w1o5 : Int32) (w1o6 : Int32) (w1o7 : Int32) (w1a8 : (Nat → Int32)) (w1a9 : (Nat → Int32)) (w1a10 : (Nat → Int32)) (w1a11 : (Nat → Int32)) (w1a12 : (Nat → Int32)) (w1a14 : (Nat → Int32)) (w1a15 : (Nat → Int32)) (w1a16 : (Nat → Int32)) (w1a17 : (Nat → Int32)) (w1h : Nat) (w1c : (Nat → Option Nat)) (gs : Int32) (ga0 : (Nat → Int32)) (ga1 : (Nat → Int32)) (ga2 : (Nat → Int32)) (ga3 : (Nat → Int32)) (ga5 : (Nat → Int32)) (h : pX11_looked F (o0 0) (o0 1) (o0 2) (o0 3) (o0 4) (o0 5) (o0 6) (o0 7) (A0 8) (A0 9) (A0 10) (A0 11) (A0 12) (A0 14) (A0 15) (A0 16) (A0 17) h0 C0 w1o0 w1o1 w1o2 w1o3 w1o4 w1o5 w1o6 w1o7 w1a8 w1a9 w1a10 w1a11 w1a12 w1a14 w1a15 w1a16 w1a17 w1h w1c gs ga0 ga1 ga2 ga3 ga5 = some res) : gGO Γ 0 0 0 [(0, .ref (q 5))] [] (cw (g_E Γ) q r (gpl F) o0 A0 C0 h0 (gu (gu (gu (gu (gu (gu (gu (gu o1 0 w1o0) 1 w1o1) 2 w1o2) 3 w1o3) 4 w1o4) 5 w1o5) 6 w1o6) 7 w1o7) (gu (gu (gu (gu (gu (gu (gu (gu (gu A1 8 w1a8) 9 w1a9) 10 w1a10) 11 w1a11) 12 w1a12) 14 w1a14) 15 w1a15) 16 w1a16) 17 w1a17) w1c w1h o2 A2 C2 h2 gs (gu (gu (gu (gu (gu gA 0 ga0) 1 ga1) 2 ga2) 3 ga3) 5 ga5) tb0 tA0 bf0 hi0) := by
    unfold pX11_looked at h
    refine g_iconst (v := 0) K dX11_looked_0 (by decide) ?_
    refine g_istore_n (L' := [(1, .int 0), (0, .ref (q 5))]) K dX11_looked_1 rfl (hlt _ (by decide)) rfl ?_
    refine g_sub (L' := [(0, .ref (q 5)), (1, .int 0)]) [1, 0] rfl ?_
    exact wX11_looked_2 (C0 := C0) (h0 := h0) (C1 := C1) (h1 := h1) (C2 := C2) (h2 := h2) (gs0 := gs0) (tb0 := tb0) (tA0 := tA0) (bf0 := bf0) (hi0 := hi0) hF K hlt hRm hret 1000 w1o0 w1o1 w1o2 w1o3 w1o4 w1o5 w1o6 w1o7 w1a8 w1a9 w1a10 w1a11 w1a12 w1a14 w1a15 w1a16 w1a17 w1h w1c gs ga0 ga1 ga2 ga3 ga5 0 h

set_option maxRecDepth 100000 in
theorem ctX11_looked {E : gE} {q : Nat → Nat} {r : Nat → Nat → Nat} {F : gF} (hF : gFz E F) (o0 : Nat → Int32) (A0 : Nat → Nat → Int32) (C0 : Nat → Option Nat) (h0 : Nat) (o1 : Nat → Int32) (A1 : Nat → Nat → Int32) (C1 : Nat → Option Nat) (h1 : Nat) (o2 : Nat → Int32) (A2 : Nat → Nat → Int32) (C2 : Nat → Option Nat) (h2 : Nat) (gs0 : Int32) (gA : Nat → Nat → Int32) (tb0 : Int32) (tA0 bf0 : Nat → Int32) (hi0 : Int32) {res : Int32 × Int32 × Int32 × Int32 × Int32 × Int32 × Int32 × Int32 × Int32 × ((Nat → Int32)) × ((Nat → Int32)) × ((Nat → Int32)) × ((Nat → Int32)) × ((Nat → Int32)) × ((Nat → Int32)) × ((Nat → Int32)) × ((Nat → Int32)) × ((Nat → Int32)) × Nat × ((Nat → Option Nat)) × Int32 × ((Nat → Int32)) × ((Nat → Int32)) × ((Nat → Int32)) × ((Nat → Int32)) × ((Nat → Int32))} (h : pX11_looked F (o0 0) (o0 1) (o0 2) (o0 3) (o0 4) (o0 5) (o0 6) (o0 7) (A0 8) (A0 9) (A0 10) (A0 11) (A0 12) (A0 14) (A0 15) (A0 16) (A0 17) h0 C0 (o1 0) (o1 1) (o1 2) (o1 3) (o1 4) (o1 5) (o1 6) (o1 7) (A1 8) (A1 9) (A1 10) (A1 11) (A1 12) (A1 14) (A1 15) (A1 16) (A1 17) h1 C1 gs0 (gA 0) (gA 1) (gA 2) (gA 3) (gA 5) = some res) : gMi yX11_looked (.code yX11_looked cX11_looked 3 (some .int) :: gU) ({ frames := 11, cells := 0, slots := 0, locals := 305 } : Room) 0 0 E [.ref (q 5)] (cw E q r (gpl F) o0 A0 C0 h0 o1 A1 C1 h1 o2 A2 C2 h2 gs0 gA tb0 tA0 bf0 hi0) (fun v w => v = res.1 ∧ w = cw E q r (gpl F) o0 A0 C0 h0 (gu (gu (gu (gu (gu (gu (gu (gu o1 0 res.2.1) 1 res.2.2.1) 2 res.2.2.2.1) 3 res.2.2.2.2.1) 4 res.2.2.2.2.2.1) 5 res.2.2.2.2.2.2.1) 6 res.2.2.2.2.2.2.2.1) 7 res.2.2.2.2.2.2.2.2.1) (gu (gu (gu (gu (gu (gu (gu (gu (gu A1 8 res.2.2.2.2.2.2.2.2.2.1) 9 res.2.2.2.2.2.2.2.2.2.2.1) 10 res.2.2.2.2.2.2.2.2.2.2.2.1) 11 res.2.2.2.2.2.2.2.2.2.2.2.2.1) 12 res.2.2.2.2.2.2.2.2.2.2.2.2.2.1) 14 res.2.2.2.2.2.2.2.2.2.2.2.2.2.2.1) 15 res.2.2.2.2.2.2.2.2.2.2.2.2.2.2.2.1) 16 res.2.2.2.2.2.2.2.2.2.2.2.2.2.2.2.2.1) 17 res.2.2.2.2.2.2.2.2.2.2.2.2.2.2.2.2.2.1) res.2.2.2.2.2.2.2.2.2.2.2.2.2.2.2.2.2.2.2.1 res.2.2.2.2.2.2.2.2.2.2.2.2.2.2.2.2.2.2.1 o2 A2 C2 h2 res.2.2.2.2.2.2.2.2.2.2.2.2.2.2.2.2.2.2.2.2.1 (gu (gu (gu (gu (gu gA 0 res.2.2.2.2.2.2.2.2.2.2.2.2.2.2.2.2.2.2.2.2.2.1) 1 res.2.2.2.2.2.2.2.2.2.2.2.2.2.2.2.2.2.2.2.2.2.2.1) 2 res.2.2.2.2.2.2.2.2.2.2.2.2.2.2.2.2.2.2.2.2.2.2.2.1) 3 res.2.2.2.2.2.2.2.2.2.2.2.2.2.2.2.2.2.2.2.2.2.2.2.2.1) 5 res.2.2.2.2.2.2.2.2.2.2.2.2.2.2.2.2.2.2.2.2.2.2.2.2.2) tb0 tA0 bf0 hi0) := by
  refine g_met_i (by decide +kernel) (Nat.le_of_ble_eq_true rfl) (fun Γ K hn hE hRm _ hret => ?_)
  subst hE
  have hlt : ∀ i, i < 3 → i < g_n Γ := fun i q => by rw [hn]; exact q
  refine g_ws (ws' := cw (g_E Γ) q r (gpl F) o0 A0 C0 h0 (gu (gu (gu (gu (gu (gu (gu (gu o1 0 (o1 0)) 1 (o1 1)) 2 (o1 2)) 3 (o1 3)) 4 (o1 4)) 5 (o1 5)) 6 (o1 6)) 7 (o1 7)) (gu (gu (gu (gu (gu (gu (gu (gu (gu A1 8 (A1 8)) 9 (A1 9)) 10 (A1 10)) 11 (A1 11)) 12 (A1 12)) 14 (A1 14)) 15 (A1 15)) 16 (A1 16)) 17 (A1 17)) C1 h1 o2 A2 C2 h2 gs0 (gu (gu (gu (gu (gu gA 0 (gA 0)) 1 (gA 1)) 2 (gA 2)) 3 (gA 3)) 5 (gA 5)) tb0 tA0 bf0 hi0) rfl ?_
  refine g_sub (L' := [(0, .ref (q 5))]) [0] rfl ?_
  exact wX11_looked (C0 := C0) (h0 := h0) (C1 := C1) (h1 := h1) (C2 := C2) (h2 := h2) (gs0 := gs0) (tb0 := tb0) (tA0 := tA0) (bf0 := bf0) (hi0 := hi0) hF K hlt hRm hret (o1 0) (o1 1) (o1 2) (o1 3) (o1 4) (o1 5) (o1 6) (o1 7) (A1 8) (A1 9) (A1 10) (A1 11) (A1 12) (A1 14) (A1 15) (A1 16) (A1 17) h1 C1 gs0 (gA 0) (gA 1) (gA 2) (gA 3) (gA 5) h

set_option maxHeartbeats 4000000 in
set_option maxRecDepth 100000 in
theorem wX11_trace {Γ : gT} {q : Nat → Nat} {r : Nat → Nat → Nat} {F : gF} (hF : gFz (g_E Γ) F) {o0 : Nat → Int32} {A0 : Nat → Nat → Int32} {C0 : Nat → Option Nat} {h0 : Nat} {o1 : Nat → Int32} {A1 : Nat → Nat → Int32} {C1 : Nat → Option Nat} {h1 : Nat} {o2 : Nat → Int32} {A2 : Nat → Nat → Int32} {C2 : Nat → Option Nat} {h2 : Nat} {gs0 : Int32} {gA : Nat → Nat → Int32} {tb0 : Int32} {tA0 bf0 : Nat → Int32} {hi0 : Int32} (K : gOK Γ cX11_trace gU RX11) (hlt : ∀ i, i < 2 → i < g_n Γ) (hRm : g_R Γ = ({ frames := 4, cells := 0, slots := 0, locals := 150 } : Room)) {res : Int32} (hret : ∀ (pc : Nat) (L : List (Nat × Value)) (v : Int32) (w : va_W), decode cX11_trace pc = .ok (.ireturn, 1) → narrow .int (.int v) = .int v → (v = res ∧ w = cw (g_E Γ) q r (gpl F) o0 A0 C0 h0 o1 A1 C1 h1 o2 A2 C2 h2 gs0 gA tb0 tA0 bf0 hi0) → gGO Γ 0 0 pc L [.int v] w) (x1 : Int32) (h : pX11_trace tb0 tA0 x1 = some res) : gGO Γ 0 0 0 [(0, .ref (q 5)), (1, .int x1)] [] (cw (g_E Γ) q r (gpl F) o0 A0 C0 h0 o1 A1 C1 h1 o2 A2 C2 h2 gs0 gA tb0 tA0 bf0 hi0) := by
    unfold pX11_trace at h
    refine g_iload_n K dX11_trace_0 rfl 1 rfl ?_
    obtain ⟨ht9, hf9⟩ := gi_br h; clear h
    refine g_if_lt (tgt := 21) K dX11_trace_1 (by decide) (fun qh => ?_) (fun qh => ?_)
    · have h := ht9 qh; clear ht9 hf9
      refine g_iconst (v := (-1)) K dX11_trace_21 (by decide) ?_
      refine g_goto (tgt := 34) K dX11_trace_22 (by decide) ?_
      obtain rfl := Option.some.inj h
      exact hret _ _ _ _ dX11_trace_34 rfl ⟨rfl, rfl⟩
    · have h := hf9 qh; clear ht9 hf9
      refine g_iload_n K dX11_trace_4 rfl 1 rfl ?_
      refine g_aload_n K dX11_trace_5 rfl 0 rfl ?_
      refine g_get (v := .ref (q 4)) (T := TX11) (ref := "ChiefGrades") K hin_X11 0 rfl rfl 4 (by decide) u_328 (Or.inl rfl) rfl dX11_trace_6 ?_
      refine g_get (v := .int tb0) (T := TX8) (ref := "ChiefGrades$Trace") K hin_X8 5 rfl rfl 1 (by decide) u_318 (Or.inl rfl) rfl dX11_trace_9 ?_
      obtain ⟨ht9, hf9⟩ := gi_br h; clear h
      refine g_icmp_ge (tgt := 21) K dX11_trace_12 (by decide) (fun qh => ?_) (fun qh => ?_)
      · have h := ht9 qh; clear ht9 hf9
        refine g_iconst (v := (-1)) K dX11_trace_21 (by decide) ?_
        refine g_goto (tgt := 34) K dX11_trace_22 (by decide) ?_
        obtain rfl := Option.some.inj h
        exact hret _ _ _ _ dX11_trace_34 rfl ⟨rfl, rfl⟩
      · have h := hf9 qh; clear ht9 hf9
        refine g_iload_n K dX11_trace_15 rfl 1 rfl ?_
        refine g_bipush (v := 20) K dX11_trace_16 (by decide) ?_
        obtain ⟨ht9, hf9⟩ := gi_br h; clear h
        refine g_icmp_lt (tgt := 25) K dX11_trace_18 (by decide) (fun qh => ?_) (fun qh => ?_)
        · have h := ht9 qh; clear ht9 hf9
          refine g_aload_n K dX11_trace_25 rfl 0 rfl ?_
          refine g_get (v := .ref (q 4)) (T := TX11) (ref := "ChiefGrades") K hin_X11 0 rfl rfl 4 (by decide) u_328 (Or.inl rfl) rfl dX11_trace_26 ?_
          refine g_get (v := .ref (r 4 0)) (T := TX8) (ref := "ChiefGrades$Trace") K hin_X8 5 rfl rfl 0 (by decide) u_316 (Or.inl rfl) rfl dX11_trace_29 ?_
          refine g_iload_n K dX11_trace_32 rfl 1 rfl ?_
          obtain ⟨b_1, h⟩ := gi_none h
          refine g_iald (f := tA0) K 41 rfl (ginb_in b_1) dX11_trace_33 ?_
          obtain rfl := Option.some.inj h
          exact hret _ _ _ _ dX11_trace_34 rfl ⟨rfl, rfl⟩
        · have h := hf9 qh; clear ht9 hf9
          refine g_iconst (v := (-1)) K dX11_trace_21 (by decide) ?_
          refine g_goto (tgt := 34) K dX11_trace_22 (by decide) ?_
          obtain rfl := Option.some.inj h
          exact hret _ _ _ _ dX11_trace_34 rfl ⟨rfl, rfl⟩

set_option maxRecDepth 100000 in
theorem ctX11_trace {E : gE} {q : Nat → Nat} {r : Nat → Nat → Nat} {F : gF} (hF : gFz E F) (o0 : Nat → Int32) (A0 : Nat → Nat → Int32) (C0 : Nat → Option Nat) (h0 : Nat) (o1 : Nat → Int32) (A1 : Nat → Nat → Int32) (C1 : Nat → Option Nat) (h1 : Nat) (o2 : Nat → Int32) (A2 : Nat → Nat → Int32) (C2 : Nat → Option Nat) (h2 : Nat) (gs0 : Int32) (gA : Nat → Nat → Int32) (tb0 : Int32) (tA0 bf0 : Nat → Int32) (hi0 : Int32) (x1 : Int32) {res : Int32} (h : pX11_trace tb0 tA0 x1 = some res) : gMi yX11_trace (.code yX11_trace cX11_trace 2 (some .int) :: gU) ({ frames := 4, cells := 0, slots := 0, locals := 150 } : Room) 0 0 E [.ref (q 5), .int x1] (cw E q r (gpl F) o0 A0 C0 h0 o1 A1 C1 h1 o2 A2 C2 h2 gs0 gA tb0 tA0 bf0 hi0) (fun v w => v = res ∧ w = cw E q r (gpl F) o0 A0 C0 h0 o1 A1 C1 h1 o2 A2 C2 h2 gs0 gA tb0 tA0 bf0 hi0) := by
  refine g_met_i (by decide +kernel) (Nat.le_of_ble_eq_true rfl) (fun Γ K hn hE hRm _ hret => ?_)
  subst hE
  have hlt : ∀ i, i < 2 → i < g_n Γ := fun i q => by rw [hn]; exact q
  refine g_sub (L' := [(0, .ref (q 5)), (1, .int x1)]) [0, 1] rfl ?_
  exact wX11_trace (C0 := C0) (h0 := h0) (C1 := C1) (h1 := h1) (C2 := C2) (h2 := h2) (gs0 := gs0) (tb0 := tb0) (tA0 := tA0) (bf0 := bf0) (hi0 := hi0) hF K hlt hRm hret x1 h

set_option maxHeartbeats 4000000 in
set_option maxRecDepth 100000 in
theorem wX8_begin {Γ : gT} {q : Nat → Nat} {r : Nat → Nat → Nat} {F : gF} (hF : gFz (g_E Γ) F) {o0 : Nat → Int32} {A0 : Nat → Nat → Int32} {C0 : Nat → Option Nat} {h0 : Nat} {o1 : Nat → Int32} {A1 : Nat → Nat → Int32} {C1 : Nat → Option Nat} {h1 : Nat} {o2 : Nat → Int32} {A2 : Nat → Nat → Int32} {C2 : Nat → Option Nat} {h2 : Nat} {gs0 : Int32} {gA : Nat → Nat → Int32} {tb0 : Int32} {tA0 bf0 : Nat → Int32} {hi0 : Int32} (K : gOK Γ cX8_begin gU RX8) (hlt : ∀ i, i < 2 → i < g_n Γ) (hRm : g_R Γ = ({ frames := 4, cells := 0, slots := 0, locals := 150 } : Room)) {res : Int32 × ((Nat → Int32))} (hret : ∀ (pc : Nat) (L : List (Nat × Value)) (w : va_W), decode cX8_begin pc = .ok (.return_, 1) → (w = cw (g_E Γ) q r (gpl F) o0 A0 C0 h0 o1 A1 C1 h1 o2 A2 C2 h2 gs0 gA res.1 res.2 bf0 hi0) → gGO Γ 0 0 pc L [] w) (tb : Int32) (ta : (Nat → Int32)) (x1 : Int32) (h : pX8_begin tb ta x1 = some res) : gGO Γ 0 0 0 [(0, .ref (q 4)), (1, .int x1)] [] (cw (g_E Γ) q r (gpl F) o0 A0 C0 h0 o1 A1 C1 h1 o2 A2 C2 h2 gs0 gA tb ta bf0 hi0) := by
    unfold pX8_begin at h
    refine g_aload_n K dX8_begin_0 rfl 0 rfl ?_
    refine g_get (v := .int tb) (T := TX8) (ref := "ChiefGrades$Trace") K hin_X8 5 rfl rfl 1 (by decide) u_317 (Or.inl rfl) rfl dX8_begin_1 ?_
    obtain ⟨ht9, hf9⟩ := gi_br h; clear h
    refine g_if_lt (tgt := 26) K dX8_begin_4 (by decide) (fun qh => ?_) (fun qh => ?_)
    · have h := ht9 qh; clear ht9 hf9
      refine g_aload_n K dX8_begin_26 rfl 0 rfl ?_
      refine g_dup K dX8_begin_27 rfl ?_
      refine g_get (v := .int tb) (T := TX8) (ref := "ChiefGrades$Trace") K hin_X8 5 rfl rfl 1 (by decide) u_317 (Or.inl rfl) rfl dX8_begin_28 ?_
      refine g_iconst (v := 1) K dX8_begin_31 (by decide) ?_
      refine g_iadd K dX8_begin_32 ?_
      refine g_put (v := .int (tb + 1)) (ws' := cw (g_E Γ) q r (gpl F) o0 A0 C0 h0 o1 A1 C1 h1 o2 A2 C2 h2 gs0 gA (tb + 1) ta bf0 hi0) (T := TX8) (ref := "ChiefGrades$Trace") (ty := .int) K hin_X8 tyX8_ok nmX8 5 rfl rfl 1 (by decide) u_317 rfl rfl (by decide +kernel) rfl rfl (Nat.le_of_ble_eq_true rfl) dX8_begin_33 rfl ?_
      obtain rfl := Option.some.inj h
      exact hret _ _ _ dX8_begin_36 rfl
    · have h := hf9 qh; clear ht9 hf9
      refine g_aload_n K dX8_begin_7 rfl 0 rfl ?_
      refine g_get (v := .int tb) (T := TX8) (ref := "ChiefGrades$Trace") K hin_X8 5 rfl rfl 1 (by decide) u_317 (Or.inl rfl) rfl dX8_begin_8 ?_
      refine g_bipush (v := 20) K dX8_begin_11 (by decide) ?_
      obtain ⟨ht9, hf9⟩ := gi_br h; clear h
      refine g_icmp_ge (tgt := 26) K dX8_begin_13 (by decide) (fun qh => ?_) (fun qh => ?_)
      · have h := ht9 qh; clear ht9 hf9
        refine g_aload_n K dX8_begin_26 rfl 0 rfl ?_
        refine g_dup K dX8_begin_27 rfl ?_
        refine g_get (v := .int tb) (T := TX8) (ref := "ChiefGrades$Trace") K hin_X8 5 rfl rfl 1 (by decide) u_317 (Or.inl rfl) rfl dX8_begin_28 ?_
        refine g_iconst (v := 1) K dX8_begin_31 (by decide) ?_
        refine g_iadd K dX8_begin_32 ?_
        refine g_put (v := .int (tb + 1)) (ws' := cw (g_E Γ) q r (gpl F) o0 A0 C0 h0 o1 A1 C1 h1 o2 A2 C2 h2 gs0 gA (tb + 1) ta bf0 hi0) (T := TX8) (ref := "ChiefGrades$Trace") (ty := .int) K hin_X8 tyX8_ok nmX8 5 rfl rfl 1 (by decide) u_317 rfl rfl (by decide +kernel) rfl rfl (Nat.le_of_ble_eq_true rfl) dX8_begin_33 rfl ?_
        obtain rfl := Option.some.inj h
        exact hret _ _ _ dX8_begin_36 rfl
      · have h := hf9 qh; clear ht9 hf9
        refine g_aload_n K dX8_begin_16 rfl 0 rfl ?_
        refine g_get (v := .ref (r 4 0)) (T := TX8) (ref := "ChiefGrades$Trace") K hin_X8 5 rfl rfl 0 (by decide) u_315 (Or.inl rfl) rfl dX8_begin_17 ?_
        refine g_aload_n K dX8_begin_20 rfl 0 rfl ?_
        refine g_get (v := .int tb) (T := TX8) (ref := "ChiefGrades$Trace") K hin_X8 5 rfl rfl 1 (by decide) u_317 (Or.inl rfl) rfl dX8_begin_21 ?_
        refine g_iload_n K dX8_begin_24 rfl 1 rfl ?_
        obtain ⟨b_1, h⟩ := gi_none h
        obtain ⟨f_2, ef_2, h⟩ := gi_nm h
        refine g_iast (f := ta) (ws' := cw (g_E Γ) q r (gpl F) o0 A0 C0 h0 o1 A1 C1 h1 o2 A2 C2 h2 gs0 gA tb f_2 bf0 hi0) K 41 rfl (ginb_in b_1) dX8_begin_25 (by rw [ef_2]; rfl) ?_
        refine g_aload_n K dX8_begin_26 rfl 0 rfl ?_
        refine g_dup K dX8_begin_27 rfl ?_
        refine g_get (v := .int tb) (T := TX8) (ref := "ChiefGrades$Trace") K hin_X8 5 rfl rfl 1 (by decide) u_317 (Or.inl rfl) rfl dX8_begin_28 ?_
        refine g_iconst (v := 1) K dX8_begin_31 (by decide) ?_
        refine g_iadd K dX8_begin_32 ?_
        refine g_put (v := .int (tb + 1)) (ws' := cw (g_E Γ) q r (gpl F) o0 A0 C0 h0 o1 A1 C1 h1 o2 A2 C2 h2 gs0 gA (tb + 1) f_2 bf0 hi0) (T := TX8) (ref := "ChiefGrades$Trace") (ty := .int) K hin_X8 tyX8_ok nmX8 5 rfl rfl 1 (by decide) u_317 rfl rfl (by decide +kernel) rfl rfl (Nat.le_of_ble_eq_true rfl) dX8_begin_33 rfl ?_
        obtain rfl := Option.some.inj h
        exact hret _ _ _ dX8_begin_36 rfl

set_option maxRecDepth 100000 in
theorem ctX8_begin {E : gE} {q : Nat → Nat} {r : Nat → Nat → Nat} {F : gF} (hF : gFz E F) (o0 : Nat → Int32) (A0 : Nat → Nat → Int32) (C0 : Nat → Option Nat) (h0 : Nat) (o1 : Nat → Int32) (A1 : Nat → Nat → Int32) (C1 : Nat → Option Nat) (h1 : Nat) (o2 : Nat → Int32) (A2 : Nat → Nat → Int32) (C2 : Nat → Option Nat) (h2 : Nat) (gs0 : Int32) (gA : Nat → Nat → Int32) (tb0 : Int32) (tA0 bf0 : Nat → Int32) (hi0 : Int32) (x1 : Int32) {res : Int32 × ((Nat → Int32))} (h : pX8_begin tb0 tA0 x1 = some res) : gMv yX8_begin (.code yX8_begin cX8_begin 2 none :: gU) ({ frames := 4, cells := 0, slots := 0, locals := 150 } : Room) 0 0 E [.ref (q 4), .int x1] (cw E q r (gpl F) o0 A0 C0 h0 o1 A1 C1 h1 o2 A2 C2 h2 gs0 gA tb0 tA0 bf0 hi0) (fun w => w = cw E q r (gpl F) o0 A0 C0 h0 o1 A1 C1 h1 o2 A2 C2 h2 gs0 gA res.1 res.2 bf0 hi0) := by
  refine g_met_v (by decide +kernel) (Nat.le_of_ble_eq_true rfl) (fun Γ K hn hE hRm _ hret => ?_)
  subst hE
  have hlt : ∀ i, i < 2 → i < g_n Γ := fun i q => by rw [hn]; exact q
  refine g_ws (ws' := cw (g_E Γ) q r (gpl F) o0 A0 C0 h0 o1 A1 C1 h1 o2 A2 C2 h2 gs0 gA tb0 tA0 bf0 hi0) rfl ?_
  refine g_sub (L' := [(0, .ref (q 4)), (1, .int x1)]) [0, 1] rfl ?_
  exact wX8_begin (C0 := C0) (h0 := h0) (C1 := C1) (h1 := h1) (C2 := C2) (h2 := h2) (gs0 := gs0) (tb0 := tb0) (tA0 := tA0) (bf0 := bf0) (hi0 := hi0) hF K hlt hRm hret tb0 tA0 x1 h

set_option maxHeartbeats 4000000 in
set_option maxRecDepth 100000 in
theorem wX0_works_k0 {Γ : gT} {q : Nat → Nat} {r : Nat → Nat → Nat} {F : gF} (hF : gFz (g_E Γ) F) {o0 : Nat → Int32} {A0 : Nat → Nat → Int32} {C0 : Nat → Option Nat} {h0 : Nat} {o1 : Nat → Int32} {A1 : Nat → Nat → Int32} {C1 : Nat → Option Nat} {h1 : Nat} {o2 : Nat → Int32} {A2 : Nat → Nat → Int32} {C2 : Nat → Option Nat} {h2 : Nat} {gs0 : Int32} {gA : Nat → Nat → Int32} {tb0 : Int32} {tA0 bf0 : Nat → Int32} {hi0 : Int32} {b0 : Nat} (hb : chv F b0 = true) (hk0 : ck F b0 = 0) (K : gOK Γ cX0_works gU RX0) (hlt : ∀ i, i < 3 → i < g_n Γ) (hRm : g_R Γ = ({ frames := 5, cells := 0, slots := 0, locals := 171 } : Room)) {res : Int32 × Int32 × ((Nat → Int32))} (hret : ∀ (pc : Nat) (L : List (Nat × Value)) (v : Int32) (w : va_W), decode cX0_works pc = .ok (.ireturn, 1) → narrow .int (.int v) = .int v → (v = res.1 ∧ w = cw (g_E Γ) q r (gpl F) o0 A0 C0 h0 o1 A1 C1 h1 o2 A2 C2 h2 gs0 gA res.2.1 res.2.2 bf0 hi0) → gGO Γ 0 0 pc L [.int v] w) (tb : Int32) (ta : (Nat → Int32)) (x1 : Int32) (h : pX0_works_k0 F b0 tb ta x1 = some res) : gGO Γ 0 0 0 [(0, .ref b0), (1, .int x1), (2, .ref (q 4))] [] (cw (g_E Γ) q r (gpl F) o0 A0 C0 h0 o1 A1 C1 h1 o2 A2 C2 h2 gs0 gA tb ta bf0 hi0) := by
    unfold pX0_works_k0 at h
    refine g_aload_n K dX0_works_0 rfl 2 rfl ?_
    refine g_iconst (v := 1) K dX0_works_1 (by decide) ?_
    obtain ⟨z_1, hz_1, h⟩ := gi_bd h
    refine g_callVv (As := [.int 1]) (bytes := cX8_begin) (maxL := 2) (ret := none) K (ctX8_begin hF o0 A0 C0 h0 o1 A1 C1 h1 o2 A2 C2 h2 gs0 gA tb ta bf0 hi0 1 (res := z_1) hz_1) gc_V_RX0_43_X8_begin rfl qv_X8_begin 5 rfl rfl rfl hRm rfl rfl rfl (by decide) (Nat.le_of_ble_eq_true rfl) (by decide) dX0_works_2 (fun w hw => ?_)
    subst hw
    refine g_ws (ws' := cw (g_E Γ) q r (gpl F) o0 A0 C0 h0 o1 A1 C1 h1 o2 A2 C2 h2 gs0 gA z_1.1 z_1.2 bf0 hi0) rfl ?_
    refine g_iload_n K dX0_works_5 rfl 1 rfl ?_
    refine g_aload_n K dX0_works_6 rfl 0 rfl ?_
    refine g_getF (v := .int (cn F b0)) (T := TX0) (ref := "ChiefGrades$Chief") K hin_X0 (gF_at (j := 0) hF hb hk0 (by decide)) rfl 1 (by decide) u_258 (Or.inl rfl) rfl dX0_works_7 ?_
    refine g_iadd K dX0_works_10 ?_
    obtain rfl := Option.some.inj h
    exact hret _ _ _ _ dX0_works_11 rfl ⟨rfl, rfl⟩

set_option maxRecDepth 100000 in
theorem ctX0_works_k0 {E : gE} {q : Nat → Nat} {r : Nat → Nat → Nat} {F : gF} (hF : gFz E F) {b0 : Nat} (hb : chv F b0 = true) (hk0 : ck F b0 = 0) (o0 : Nat → Int32) (A0 : Nat → Nat → Int32) (C0 : Nat → Option Nat) (h0 : Nat) (o1 : Nat → Int32) (A1 : Nat → Nat → Int32) (C1 : Nat → Option Nat) (h1 : Nat) (o2 : Nat → Int32) (A2 : Nat → Nat → Int32) (C2 : Nat → Option Nat) (h2 : Nat) (gs0 : Int32) (gA : Nat → Nat → Int32) (tb0 : Int32) (tA0 bf0 : Nat → Int32) (hi0 : Int32) (x1 : Int32) {res : Int32 × Int32 × ((Nat → Int32))} (h : pX0_works_k0 F b0 tb0 tA0 x1 = some res) : gMi yX0_works (.code yX0_works cX0_works 3 (some .int) :: gU) ({ frames := 5, cells := 0, slots := 0, locals := 171 } : Room) 0 0 E [.ref b0, .int x1, .ref (q 4)] (cw E q r (gpl F) o0 A0 C0 h0 o1 A1 C1 h1 o2 A2 C2 h2 gs0 gA tb0 tA0 bf0 hi0) (fun v w => v = res.1 ∧ w = cw E q r (gpl F) o0 A0 C0 h0 o1 A1 C1 h1 o2 A2 C2 h2 gs0 gA res.2.1 res.2.2 bf0 hi0) := by
  refine g_met_i (by decide +kernel) (Nat.le_of_ble_eq_true rfl) (fun Γ K hn hE hRm _ hret => ?_)
  subst hE
  have hlt : ∀ i, i < 3 → i < g_n Γ := fun i q => by rw [hn]; exact q
  refine g_ws (ws' := cw (g_E Γ) q r (gpl F) o0 A0 C0 h0 o1 A1 C1 h1 o2 A2 C2 h2 gs0 gA tb0 tA0 bf0 hi0) rfl ?_
  refine g_sub (L' := [(0, .ref b0), (1, .int x1), (2, .ref (q 4))]) [0, 1, 2] rfl ?_
  exact wX0_works_k0 (C0 := C0) (h0 := h0) (C1 := C1) (h1 := h1) (C2 := C2) (h2 := h2) (gs0 := gs0) (tb0 := tb0) (tA0 := tA0) (bf0 := bf0) (hi0 := hi0) hF hb hk0 K hlt hRm hret tb0 tA0 x1 h

set_option maxHeartbeats 4000000 in
set_option maxRecDepth 100000 in
theorem wX0_grades_k0 {Γ : gT} {q : Nat → Nat} {r : Nat → Nat → Nat} {F : gF} (hF : gFz (g_E Γ) F) {o0 : Nat → Int32} {A0 : Nat → Nat → Int32} {C0 : Nat → Option Nat} {h0 : Nat} {o1 : Nat → Int32} {A1 : Nat → Nat → Int32} {C1 : Nat → Option Nat} {h1 : Nat} {o2 : Nat → Int32} {A2 : Nat → Nat → Int32} {C2 : Nat → Option Nat} {h2 : Nat} {gs0 : Int32} {gA : Nat → Nat → Int32} {tb0 : Int32} {tA0 bf0 : Nat → Int32} {hi0 : Int32} {b0 : Nat} (hb : chv F b0 = true) (hk0 : ck F b0 = 0) (K : gOK Γ cX0_grades gU RX0) (hlt : ∀ i, i < 3 → i < g_n Γ) (hRm : g_R Γ = ({ frames := 6, cells := 0, slots := 0, locals := 193 } : Room)) {res : Int32 × Int32 × ((Nat → Int32))} (hret : ∀ (pc : Nat) (L : List (Nat × Value)) (v : Int32) (w : va_W), decode cX0_grades pc = .ok (.ireturn, 1) → narrow .int (.int v) = .int v → (v = res.1 ∧ w = cw (g_E Γ) q r (gpl F) o0 A0 C0 h0 o1 A1 C1 h1 o2 A2 C2 h2 gs0 gA res.2.1 res.2.2 bf0 hi0) → gGO Γ 0 0 pc L [.int v] w) (tb : Int32) (ta : (Nat → Int32)) (x1 : Int32) (h : pX0_grades_k0 F b0 tb ta x1 = some res) : gGO Γ 0 0 0 [(0, .ref b0), (1, .int x1), (2, .ref (q 4))] [] (cw (g_E Γ) q r (gpl F) o0 A0 C0 h0 o1 A1 C1 h1 o2 A2 C2 h2 gs0 gA tb ta bf0 hi0) := by
    unfold pX0_grades_k0 at h
    refine g_aload_n K dX0_grades_0 rfl 2 rfl ?_
    refine g_iconst (v := 2) K dX0_grades_1 (by decide) ?_
    obtain ⟨z_1, hz_1, h⟩ := gi_bd h
    refine g_callVv (As := [.int 2]) (bytes := cX8_begin) (maxL := 2) (ret := none) K (ctX8_begin hF o0 A0 C0 h0 o1 A1 C1 h1 o2 A2 C2 h2 gs0 gA tb ta bf0 hi0 2 (res := z_1) hz_1) gc_V_RX0_43_X8_begin rfl qv_X8_begin 5 rfl rfl rfl hRm rfl rfl rfl (by decide) (Nat.le_of_ble_eq_true rfl) (by decide) dX0_grades_2 (fun w hw => ?_)
    subst hw
    refine g_ws (ws' := cw (g_E Γ) q r (gpl F) o0 A0 C0 h0 o1 A1 C1 h1 o2 A2 C2 h2 gs0 gA z_1.1 z_1.2 bf0 hi0) rfl ?_
    refine g_aload_n K dX0_grades_5 rfl 0 rfl ?_
    refine g_iload_n K dX0_grades_6 rfl 1 rfl ?_
    refine g_aload_n K dX0_grades_7 rfl 2 rfl ?_
    obtain ⟨z_2, hz_2, h⟩ := gi_bd h
    refine g_callViF (As := [.int x1, .ref (q 4)]) (bytes := cX0_works) (maxL := 3) (ret := (some .int)) K (ctX0_works_k0 hF (b0 := b0) hb hk0 o0 A0 C0 h0 o1 A1 C1 h1 o2 A2 C2 h2 gs0 gA z_1.1 z_1.2 bf0 hi0 x1 (res := z_2) hz_2) gc_V_RX0_49_X0_works rfl qv_X0_works (gF_at (j := 0) hF hb hk0 (by decide)) rfl rfl hRm rfl rfl rfl (by decide) (Nat.le_of_ble_eq_true rfl) (by decide) dX0_grades_8 (fun v w hw => ?_)
    obtain ⟨hv9, rfl⟩ := hw; have hv9 := hv9.symm; subst hv9
    refine g_ws (ws' := cw (g_E Γ) q r (gpl F) o0 A0 C0 h0 o1 A1 C1 h1 o2 A2 C2 h2 gs0 gA z_2.2.1 z_2.2.2 bf0 hi0) rfl ?_
    refine g_aload_n K dX0_grades_11 rfl 0 rfl ?_
    refine g_getF (v := .int (cv F b0)) (T := TX0) (ref := "ChiefGrades$Chief") K hin_X0 (gF_at (j := 0) hF hb hk0 (by decide)) rfl 2 (by decide) u_263 (Or.inl rfl) rfl dX0_grades_12 ?_
    refine g_isub K dX0_grades_15 ?_
    obtain rfl := Option.some.inj h
    exact hret _ _ _ _ dX0_grades_16 rfl ⟨rfl, rfl⟩

set_option maxRecDepth 100000 in
theorem ctX0_grades_k0 {E : gE} {q : Nat → Nat} {r : Nat → Nat → Nat} {F : gF} (hF : gFz E F) {b0 : Nat} (hb : chv F b0 = true) (hk0 : ck F b0 = 0) (o0 : Nat → Int32) (A0 : Nat → Nat → Int32) (C0 : Nat → Option Nat) (h0 : Nat) (o1 : Nat → Int32) (A1 : Nat → Nat → Int32) (C1 : Nat → Option Nat) (h1 : Nat) (o2 : Nat → Int32) (A2 : Nat → Nat → Int32) (C2 : Nat → Option Nat) (h2 : Nat) (gs0 : Int32) (gA : Nat → Nat → Int32) (tb0 : Int32) (tA0 bf0 : Nat → Int32) (hi0 : Int32) (x1 : Int32) {res : Int32 × Int32 × ((Nat → Int32))} (h : pX0_grades_k0 F b0 tb0 tA0 x1 = some res) : gMi yX0_grades (.code yX0_grades cX0_grades 3 (some .int) :: gU) ({ frames := 6, cells := 0, slots := 0, locals := 193 } : Room) 0 0 E [.ref b0, .int x1, .ref (q 4)] (cw E q r (gpl F) o0 A0 C0 h0 o1 A1 C1 h1 o2 A2 C2 h2 gs0 gA tb0 tA0 bf0 hi0) (fun v w => v = res.1 ∧ w = cw E q r (gpl F) o0 A0 C0 h0 o1 A1 C1 h1 o2 A2 C2 h2 gs0 gA res.2.1 res.2.2 bf0 hi0) := by
  refine g_met_i (by decide +kernel) (Nat.le_of_ble_eq_true rfl) (fun Γ K hn hE hRm _ hret => ?_)
  subst hE
  have hlt : ∀ i, i < 3 → i < g_n Γ := fun i q => by rw [hn]; exact q
  refine g_ws (ws' := cw (g_E Γ) q r (gpl F) o0 A0 C0 h0 o1 A1 C1 h1 o2 A2 C2 h2 gs0 gA tb0 tA0 bf0 hi0) rfl ?_
  refine g_sub (L' := [(0, .ref b0), (1, .int x1), (2, .ref (q 4))]) [0, 1, 2] rfl ?_
  exact wX0_grades_k0 (C0 := C0) (h0 := h0) (C1 := C1) (h1 := h1) (C2 := C2) (h2 := h2) (gs0 := gs0) (tb0 := tb0) (tA0 := tA0) (bf0 := bf0) (hi0 := hi0) hF hb hk0 K hlt hRm hret tb0 tA0 x1 h

set_option maxHeartbeats 4000000 in
set_option maxRecDepth 100000 in
theorem wX0_levels_k0 {Γ : gT} {q : Nat → Nat} {r : Nat → Nat → Nat} {F : gF} (hF : gFz (g_E Γ) F) {o0 : Nat → Int32} {A0 : Nat → Nat → Int32} {C0 : Nat → Option Nat} {h0 : Nat} {o1 : Nat → Int32} {A1 : Nat → Nat → Int32} {C1 : Nat → Option Nat} {h1 : Nat} {o2 : Nat → Int32} {A2 : Nat → Nat → Int32} {C2 : Nat → Option Nat} {h2 : Nat} {gs0 : Int32} {gA : Nat → Nat → Int32} {tb0 : Int32} {tA0 bf0 : Nat → Int32} {hi0 : Int32} {b0 : Nat} (hb : chv F b0 = true) (hk0 : ck F b0 = 0) (K : gOK Γ cX0_levels gU RX0) (hlt : ∀ i, i < 3 → i < g_n Γ) (hRm : g_R Γ = ({ frames := 7, cells := 0, slots := 0, locals := 215 } : Room)) {res : Int32 × Int32 × ((Nat → Int32))} (hret : ∀ (pc : Nat) (L : List (Nat × Value)) (v : Int32) (w : va_W), decode cX0_levels pc = .ok (.ireturn, 1) → narrow .int (.int v) = .int v → (v = res.1 ∧ w = cw (g_E Γ) q r (gpl F) o0 A0 C0 h0 o1 A1 C1 h1 o2 A2 C2 h2 gs0 gA res.2.1 res.2.2 bf0 hi0) → gGO Γ 0 0 pc L [.int v] w) (tb : Int32) (ta : (Nat → Int32)) (x1 : Int32) (h : pX0_levels_k0 F b0 tb ta x1 = some res) : gGO Γ 0 0 0 [(0, .ref b0), (1, .int x1), (2, .ref (q 4))] [] (cw (g_E Γ) q r (gpl F) o0 A0 C0 h0 o1 A1 C1 h1 o2 A2 C2 h2 gs0 gA tb ta bf0 hi0) := by
    unfold pX0_levels_k0 at h
    refine g_aload_n K dX0_levels_0 rfl 2 rfl ?_
    refine g_iconst (v := 3) K dX0_levels_1 (by decide) ?_
    obtain ⟨z_1, hz_1, h⟩ := gi_bd h
    refine g_callVv (As := [.int 3]) (bytes := cX8_begin) (maxL := 2) (ret := none) K (ctX8_begin hF o0 A0 C0 h0 o1 A1 C1 h1 o2 A2 C2 h2 gs0 gA tb ta bf0 hi0 3 (res := z_1) hz_1) gc_V_RX0_43_X8_begin rfl qv_X8_begin 5 rfl rfl rfl hRm rfl rfl rfl (by decide) (Nat.le_of_ble_eq_true rfl) (by decide) dX0_levels_2 (fun w hw => ?_)
    subst hw
    refine g_ws (ws' := cw (g_E Γ) q r (gpl F) o0 A0 C0 h0 o1 A1 C1 h1 o2 A2 C2 h2 gs0 gA z_1.1 z_1.2 bf0 hi0) rfl ?_
    refine g_aload_n K dX0_levels_5 rfl 0 rfl ?_
    refine g_iload_n K dX0_levels_6 rfl 1 rfl ?_
    refine g_aload_n K dX0_levels_7 rfl 2 rfl ?_
    obtain ⟨z_2, hz_2, h⟩ := gi_bd h
    refine g_callViF (As := [.int x1, .ref (q 4)]) (bytes := cX0_grades) (maxL := 3) (ret := (some .int)) K (ctX0_grades_k0 hF (b0 := b0) hb hk0 o0 A0 C0 h0 o1 A1 C1 h1 o2 A2 C2 h2 gs0 gA z_1.1 z_1.2 bf0 hi0 x1 (res := z_2) hz_2) gc_V_RX0_53_X0_grades rfl qv_X0_grades (gF_at (j := 0) hF hb hk0 (by decide)) rfl rfl hRm rfl rfl rfl (by decide) (Nat.le_of_ble_eq_true rfl) (by decide) dX0_levels_8 (fun v w hw => ?_)
    obtain ⟨hv9, rfl⟩ := hw; have hv9 := hv9.symm; subst hv9
    refine g_ws (ws' := cw (g_E Γ) q r (gpl F) o0 A0 C0 h0 o1 A1 C1 h1 o2 A2 C2 h2 gs0 gA z_2.2.1 z_2.2.2 bf0 hi0) rfl ?_
    refine g_iconst (v := 2) K dX0_levels_11 (by decide) ?_
    refine g_imul K dX0_levels_12 ?_
    obtain rfl := Option.some.inj h
    exact hret _ _ _ _ dX0_levels_13 rfl ⟨rfl, rfl⟩

set_option maxRecDepth 100000 in
theorem ctX0_levels_k0 {E : gE} {q : Nat → Nat} {r : Nat → Nat → Nat} {F : gF} (hF : gFz E F) {b0 : Nat} (hb : chv F b0 = true) (hk0 : ck F b0 = 0) (o0 : Nat → Int32) (A0 : Nat → Nat → Int32) (C0 : Nat → Option Nat) (h0 : Nat) (o1 : Nat → Int32) (A1 : Nat → Nat → Int32) (C1 : Nat → Option Nat) (h1 : Nat) (o2 : Nat → Int32) (A2 : Nat → Nat → Int32) (C2 : Nat → Option Nat) (h2 : Nat) (gs0 : Int32) (gA : Nat → Nat → Int32) (tb0 : Int32) (tA0 bf0 : Nat → Int32) (hi0 : Int32) (x1 : Int32) {res : Int32 × Int32 × ((Nat → Int32))} (h : pX0_levels_k0 F b0 tb0 tA0 x1 = some res) : gMi yX0_levels (.code yX0_levels cX0_levels 3 (some .int) :: gU) ({ frames := 7, cells := 0, slots := 0, locals := 215 } : Room) 0 0 E [.ref b0, .int x1, .ref (q 4)] (cw E q r (gpl F) o0 A0 C0 h0 o1 A1 C1 h1 o2 A2 C2 h2 gs0 gA tb0 tA0 bf0 hi0) (fun v w => v = res.1 ∧ w = cw E q r (gpl F) o0 A0 C0 h0 o1 A1 C1 h1 o2 A2 C2 h2 gs0 gA res.2.1 res.2.2 bf0 hi0) := by
  refine g_met_i (by decide +kernel) (Nat.le_of_ble_eq_true rfl) (fun Γ K hn hE hRm _ hret => ?_)
  subst hE
  have hlt : ∀ i, i < 3 → i < g_n Γ := fun i q => by rw [hn]; exact q
  refine g_ws (ws' := cw (g_E Γ) q r (gpl F) o0 A0 C0 h0 o1 A1 C1 h1 o2 A2 C2 h2 gs0 gA tb0 tA0 bf0 hi0) rfl ?_
  refine g_sub (L' := [(0, .ref b0), (1, .int x1), (2, .ref (q 4))]) [0, 1, 2] rfl ?_
  exact wX0_levels_k0 (C0 := C0) (h0 := h0) (C1 := C1) (h1 := h1) (C2 := C2) (h2 := h2) (gs0 := gs0) (tb0 := tb0) (tA0 := tA0) (bf0 := bf0) (hi0 := hi0) hF hb hk0 K hlt hRm hret tb0 tA0 x1 h

set_option maxHeartbeats 4000000 in
set_option maxRecDepth 100000 in
theorem wX0_works_k1 {Γ : gT} {q : Nat → Nat} {r : Nat → Nat → Nat} {F : gF} (hF : gFz (g_E Γ) F) {o0 : Nat → Int32} {A0 : Nat → Nat → Int32} {C0 : Nat → Option Nat} {h0 : Nat} {o1 : Nat → Int32} {A1 : Nat → Nat → Int32} {C1 : Nat → Option Nat} {h1 : Nat} {o2 : Nat → Int32} {A2 : Nat → Nat → Int32} {C2 : Nat → Option Nat} {h2 : Nat} {gs0 : Int32} {gA : Nat → Nat → Int32} {tb0 : Int32} {tA0 bf0 : Nat → Int32} {hi0 : Int32} {b0 : Nat} (hb : chv F b0 = true) (hk0 : ck F b0 = 1) (K : gOK Γ cX0_works gU RX0) (hlt : ∀ i, i < 3 → i < g_n Γ) (hRm : g_R Γ = ({ frames := 5, cells := 0, slots := 0, locals := 171 } : Room)) {res : Int32 × Int32 × ((Nat → Int32))} (hret : ∀ (pc : Nat) (L : List (Nat × Value)) (v : Int32) (w : va_W), decode cX0_works pc = .ok (.ireturn, 1) → narrow .int (.int v) = .int v → (v = res.1 ∧ w = cw (g_E Γ) q r (gpl F) o0 A0 C0 h0 o1 A1 C1 h1 o2 A2 C2 h2 gs0 gA res.2.1 res.2.2 bf0 hi0) → gGO Γ 0 0 pc L [.int v] w) (tb : Int32) (ta : (Nat → Int32)) (x1 : Int32) (h : pX0_works_k1 F b0 tb ta x1 = some res) : gGO Γ 0 0 0 [(0, .ref b0), (1, .int x1), (2, .ref (q 4))] [] (cw (g_E Γ) q r (gpl F) o0 A0 C0 h0 o1 A1 C1 h1 o2 A2 C2 h2 gs0 gA tb ta bf0 hi0) := by
    unfold pX0_works_k1 at h
    refine g_aload_n K dX0_works_0 rfl 2 rfl ?_
    refine g_iconst (v := 1) K dX0_works_1 (by decide) ?_
    obtain ⟨z_1, hz_1, h⟩ := gi_bd h
    refine g_callVv (As := [.int 1]) (bytes := cX8_begin) (maxL := 2) (ret := none) K (ctX8_begin hF o0 A0 C0 h0 o1 A1 C1 h1 o2 A2 C2 h2 gs0 gA tb ta bf0 hi0 1 (res := z_1) hz_1) gc_V_RX0_43_X8_begin rfl qv_X8_begin 5 rfl rfl rfl hRm rfl rfl rfl (by decide) (Nat.le_of_ble_eq_true rfl) (by decide) dX0_works_2 (fun w hw => ?_)
    subst hw
    refine g_ws (ws' := cw (g_E Γ) q r (gpl F) o0 A0 C0 h0 o1 A1 C1 h1 o2 A2 C2 h2 gs0 gA z_1.1 z_1.2 bf0 hi0) rfl ?_
    refine g_iload_n K dX0_works_5 rfl 1 rfl ?_
    refine g_aload_n K dX0_works_6 rfl 0 rfl ?_
    refine g_getF (v := .int (cn F b0)) (T := TX5) (ref := "ChiefGrades$Chief") K hin_X5 (gF_at (j := 1) hF hb hk0 (by decide)) rfl 1 (by decide) u_258 (Or.inl rfl) rfl dX0_works_7 ?_
    refine g_iadd K dX0_works_10 ?_
    obtain rfl := Option.some.inj h
    exact hret _ _ _ _ dX0_works_11 rfl ⟨rfl, rfl⟩

set_option maxRecDepth 100000 in
theorem ctX0_works_k1 {E : gE} {q : Nat → Nat} {r : Nat → Nat → Nat} {F : gF} (hF : gFz E F) {b0 : Nat} (hb : chv F b0 = true) (hk0 : ck F b0 = 1) (o0 : Nat → Int32) (A0 : Nat → Nat → Int32) (C0 : Nat → Option Nat) (h0 : Nat) (o1 : Nat → Int32) (A1 : Nat → Nat → Int32) (C1 : Nat → Option Nat) (h1 : Nat) (o2 : Nat → Int32) (A2 : Nat → Nat → Int32) (C2 : Nat → Option Nat) (h2 : Nat) (gs0 : Int32) (gA : Nat → Nat → Int32) (tb0 : Int32) (tA0 bf0 : Nat → Int32) (hi0 : Int32) (x1 : Int32) {res : Int32 × Int32 × ((Nat → Int32))} (h : pX0_works_k1 F b0 tb0 tA0 x1 = some res) : gMi yX0_works (.code yX0_works cX0_works 3 (some .int) :: gU) ({ frames := 5, cells := 0, slots := 0, locals := 171 } : Room) 0 0 E [.ref b0, .int x1, .ref (q 4)] (cw E q r (gpl F) o0 A0 C0 h0 o1 A1 C1 h1 o2 A2 C2 h2 gs0 gA tb0 tA0 bf0 hi0) (fun v w => v = res.1 ∧ w = cw E q r (gpl F) o0 A0 C0 h0 o1 A1 C1 h1 o2 A2 C2 h2 gs0 gA res.2.1 res.2.2 bf0 hi0) := by
  refine g_met_i (by decide +kernel) (Nat.le_of_ble_eq_true rfl) (fun Γ K hn hE hRm _ hret => ?_)
  subst hE
  have hlt : ∀ i, i < 3 → i < g_n Γ := fun i q => by rw [hn]; exact q
  refine g_ws (ws' := cw (g_E Γ) q r (gpl F) o0 A0 C0 h0 o1 A1 C1 h1 o2 A2 C2 h2 gs0 gA tb0 tA0 bf0 hi0) rfl ?_
  refine g_sub (L' := [(0, .ref b0), (1, .int x1), (2, .ref (q 4))]) [0, 1, 2] rfl ?_
  exact wX0_works_k1 (C0 := C0) (h0 := h0) (C1 := C1) (h1 := h1) (C2 := C2) (h2 := h2) (gs0 := gs0) (tb0 := tb0) (tA0 := tA0) (bf0 := bf0) (hi0 := hi0) hF hb hk0 K hlt hRm hret tb0 tA0 x1 h

set_option maxHeartbeats 4000000 in
set_option maxRecDepth 100000 in
theorem wX5_works_k1 {Γ : gT} {q : Nat → Nat} {r : Nat → Nat → Nat} {F : gF} (hF : gFz (g_E Γ) F) {o0 : Nat → Int32} {A0 : Nat → Nat → Int32} {C0 : Nat → Option Nat} {h0 : Nat} {o1 : Nat → Int32} {A1 : Nat → Nat → Int32} {C1 : Nat → Option Nat} {h1 : Nat} {o2 : Nat → Int32} {A2 : Nat → Nat → Int32} {C2 : Nat → Option Nat} {h2 : Nat} {gs0 : Int32} {gA : Nat → Nat → Int32} {tb0 : Int32} {tA0 bf0 : Nat → Int32} {hi0 : Int32} {b0 : Nat} (hb : chv F b0 = true) (hk0 : ck F b0 = 1) (K : gOK Γ cX5_works gU RX5) (hlt : ∀ i, i < 3 → i < g_n Γ) (hRm : g_R Γ = ({ frames := 6, cells := 0, slots := 0, locals := 193 } : Room)) {res : Int32 × Int32 × ((Nat → Int32))} (hret : ∀ (pc : Nat) (L : List (Nat × Value)) (v : Int32) (w : va_W), decode cX5_works pc = .ok (.ireturn, 1) → narrow .int (.int v) = .int v → (v = res.1 ∧ w = cw (g_E Γ) q r (gpl F) o0 A0 C0 h0 o1 A1 C1 h1 o2 A2 C2 h2 gs0 gA res.2.1 res.2.2 bf0 hi0) → gGO Γ 0 0 pc L [.int v] w) (tb : Int32) (ta : (Nat → Int32)) (x1 : Int32) (h : pX5_works_k1 F b0 tb ta x1 = some res) : gGO Γ 0 0 0 [(0, .ref b0), (1, .int x1), (2, .ref (q 4))] [] (cw (g_E Γ) q r (gpl F) o0 A0 C0 h0 o1 A1 C1 h1 o2 A2 C2 h2 gs0 gA tb ta bf0 hi0) := by
    unfold pX5_works_k1 at h
    refine g_aload_n K dX5_works_0 rfl 2 rfl ?_
    refine g_bipush (v := 11) K dX5_works_1 (by decide) ?_
    obtain ⟨z_1, hz_1, h⟩ := gi_bd h
    refine g_callVv (As := [.int 11]) (bytes := cX8_begin) (maxL := 2) (ret := none) K (ctX8_begin hF o0 A0 C0 h0 o1 A1 C1 h1 o2 A2 C2 h2 gs0 gA tb ta bf0 hi0 11 (res := z_1) hz_1) gc_V_RX5_13_X8_begin rfl qv_X8_begin 5 rfl rfl rfl hRm rfl rfl rfl (by decide) (Nat.le_of_ble_eq_true rfl) (by decide) dX5_works_3 (fun w hw => ?_)
    subst hw
    refine g_ws (ws' := cw (g_E Γ) q r (gpl F) o0 A0 C0 h0 o1 A1 C1 h1 o2 A2 C2 h2 gs0 gA z_1.1 z_1.2 bf0 hi0) rfl ?_
    refine g_aload_n K dX5_works_6 rfl 0 rfl ?_
    refine g_iload_n K dX5_works_7 rfl 1 rfl ?_
    refine g_iconst (v := 3) K dX5_works_8 (by decide) ?_
    refine g_imul K dX5_works_9 ?_
    refine g_aload_n K dX5_works_10 rfl 2 rfl ?_
    obtain ⟨z_2, hz_2, h⟩ := gi_bd h
    refine g_callSUiF (As := [.int (x1 * 3), .ref (q 4)]) (bytes := cX0_works) (maxL := 3) (ret := (some .int)) K (ctX0_works_k1 hF (b0 := b0) hb hk0 o0 A0 C0 h0 o1 A1 C1 h1 o2 A2 C2 h2 gs0 gA z_1.1 z_1.2 bf0 hi0 (x1 * 3) (res := z_2) hz_2) gc_SU_RX5_19_X0_works rfl qsu_X0_works (gF_at (j := 1) hF hb hk0 (by decide)) rfl rfl hRm rfl rfl rfl (by decide) (Nat.le_of_ble_eq_true rfl) (by decide) dX5_works_11 (fun v w hw => ?_)
    obtain ⟨hv9, rfl⟩ := hw; have hv9 := hv9.symm; subst hv9
    refine g_ws (ws' := cw (g_E Γ) q r (gpl F) o0 A0 C0 h0 o1 A1 C1 h1 o2 A2 C2 h2 gs0 gA z_2.2.1 z_2.2.2 bf0 hi0) rfl ?_
    obtain rfl := Option.some.inj h
    exact hret _ _ _ _ dX5_works_14 rfl ⟨rfl, rfl⟩

set_option maxRecDepth 100000 in
theorem ctX5_works_k1 {E : gE} {q : Nat → Nat} {r : Nat → Nat → Nat} {F : gF} (hF : gFz E F) {b0 : Nat} (hb : chv F b0 = true) (hk0 : ck F b0 = 1) (o0 : Nat → Int32) (A0 : Nat → Nat → Int32) (C0 : Nat → Option Nat) (h0 : Nat) (o1 : Nat → Int32) (A1 : Nat → Nat → Int32) (C1 : Nat → Option Nat) (h1 : Nat) (o2 : Nat → Int32) (A2 : Nat → Nat → Int32) (C2 : Nat → Option Nat) (h2 : Nat) (gs0 : Int32) (gA : Nat → Nat → Int32) (tb0 : Int32) (tA0 bf0 : Nat → Int32) (hi0 : Int32) (x1 : Int32) {res : Int32 × Int32 × ((Nat → Int32))} (h : pX5_works_k1 F b0 tb0 tA0 x1 = some res) : gMi yX5_works (.code yX5_works cX5_works 3 (some .int) :: gU) ({ frames := 6, cells := 0, slots := 0, locals := 193 } : Room) 0 0 E [.ref b0, .int x1, .ref (q 4)] (cw E q r (gpl F) o0 A0 C0 h0 o1 A1 C1 h1 o2 A2 C2 h2 gs0 gA tb0 tA0 bf0 hi0) (fun v w => v = res.1 ∧ w = cw E q r (gpl F) o0 A0 C0 h0 o1 A1 C1 h1 o2 A2 C2 h2 gs0 gA res.2.1 res.2.2 bf0 hi0) := by
  refine g_met_i (by decide +kernel) (Nat.le_of_ble_eq_true rfl) (fun Γ K hn hE hRm _ hret => ?_)
  subst hE
  have hlt : ∀ i, i < 3 → i < g_n Γ := fun i q => by rw [hn]; exact q
  refine g_ws (ws' := cw (g_E Γ) q r (gpl F) o0 A0 C0 h0 o1 A1 C1 h1 o2 A2 C2 h2 gs0 gA tb0 tA0 bf0 hi0) rfl ?_
  refine g_sub (L' := [(0, .ref b0), (1, .int x1), (2, .ref (q 4))]) [0, 1, 2] rfl ?_
  exact wX5_works_k1 (C0 := C0) (h0 := h0) (C1 := C1) (h1 := h1) (C2 := C2) (h2 := h2) (gs0 := gs0) (tb0 := tb0) (tA0 := tA0) (bf0 := bf0) (hi0 := hi0) hF hb hk0 K hlt hRm hret tb0 tA0 x1 h

set_option maxHeartbeats 4000000 in
set_option maxRecDepth 100000 in
theorem wX0_grades_k1 {Γ : gT} {q : Nat → Nat} {r : Nat → Nat → Nat} {F : gF} (hF : gFz (g_E Γ) F) {o0 : Nat → Int32} {A0 : Nat → Nat → Int32} {C0 : Nat → Option Nat} {h0 : Nat} {o1 : Nat → Int32} {A1 : Nat → Nat → Int32} {C1 : Nat → Option Nat} {h1 : Nat} {o2 : Nat → Int32} {A2 : Nat → Nat → Int32} {C2 : Nat → Option Nat} {h2 : Nat} {gs0 : Int32} {gA : Nat → Nat → Int32} {tb0 : Int32} {tA0 bf0 : Nat → Int32} {hi0 : Int32} {b0 : Nat} (hb : chv F b0 = true) (hk0 : ck F b0 = 1) (K : gOK Γ cX0_grades gU RX0) (hlt : ∀ i, i < 3 → i < g_n Γ) (hRm : g_R Γ = ({ frames := 7, cells := 0, slots := 0, locals := 215 } : Room)) {res : Int32 × Int32 × ((Nat → Int32))} (hret : ∀ (pc : Nat) (L : List (Nat × Value)) (v : Int32) (w : va_W), decode cX0_grades pc = .ok (.ireturn, 1) → narrow .int (.int v) = .int v → (v = res.1 ∧ w = cw (g_E Γ) q r (gpl F) o0 A0 C0 h0 o1 A1 C1 h1 o2 A2 C2 h2 gs0 gA res.2.1 res.2.2 bf0 hi0) → gGO Γ 0 0 pc L [.int v] w) (tb : Int32) (ta : (Nat → Int32)) (x1 : Int32) (h : pX0_grades_k1 F b0 tb ta x1 = some res) : gGO Γ 0 0 0 [(0, .ref b0), (1, .int x1), (2, .ref (q 4))] [] (cw (g_E Γ) q r (gpl F) o0 A0 C0 h0 o1 A1 C1 h1 o2 A2 C2 h2 gs0 gA tb ta bf0 hi0) := by
    unfold pX0_grades_k1 at h
    refine g_aload_n K dX0_grades_0 rfl 2 rfl ?_
    refine g_iconst (v := 2) K dX0_grades_1 (by decide) ?_
    obtain ⟨z_1, hz_1, h⟩ := gi_bd h
    refine g_callVv (As := [.int 2]) (bytes := cX8_begin) (maxL := 2) (ret := none) K (ctX8_begin hF o0 A0 C0 h0 o1 A1 C1 h1 o2 A2 C2 h2 gs0 gA tb ta bf0 hi0 2 (res := z_1) hz_1) gc_V_RX0_43_X8_begin rfl qv_X8_begin 5 rfl rfl rfl hRm rfl rfl rfl (by decide) (Nat.le_of_ble_eq_true rfl) (by decide) dX0_grades_2 (fun w hw => ?_)
    subst hw
    refine g_ws (ws' := cw (g_E Γ) q r (gpl F) o0 A0 C0 h0 o1 A1 C1 h1 o2 A2 C2 h2 gs0 gA z_1.1 z_1.2 bf0 hi0) rfl ?_
    refine g_aload_n K dX0_grades_5 rfl 0 rfl ?_
    refine g_iload_n K dX0_grades_6 rfl 1 rfl ?_
    refine g_aload_n K dX0_grades_7 rfl 2 rfl ?_
    obtain ⟨z_2, hz_2, h⟩ := gi_bd h
    refine g_callOiF (n := 2) (owner := "ChiefGrades$Chief") (x := ⟨"ChiefGrades$Chief", "works", "(ILChiefGrades$Trace;)I"⟩) (As := [.int x1, .ref (q 4)]) (bytes := cX5_works) (maxL := 3) (ret := (some .int)) K (ctX5_works_k1 hF (b0 := b0) hb hk0 o0 A0 C0 h0 o1 A1 C1 h1 o2 A2 C2 h2 gs0 gA z_1.1 z_1.2 bf0 hi0 x1 (res := z_2) hz_2) gc_OX5_RX0_49_X5_works rfl u_893 (by decide +kernel) (gF_at (j := 1) hF hb hk0 (by decide)) rfl rfl hRm rfl rfl rfl (by decide) (Nat.le_of_ble_eq_true rfl) (by decide) dX0_grades_8 (fun v w hw => ?_)
    obtain ⟨hv9, rfl⟩ := hw; have hv9 := hv9.symm; subst hv9
    refine g_ws (ws' := cw (g_E Γ) q r (gpl F) o0 A0 C0 h0 o1 A1 C1 h1 o2 A2 C2 h2 gs0 gA z_2.2.1 z_2.2.2 bf0 hi0) rfl ?_
    refine g_aload_n K dX0_grades_11 rfl 0 rfl ?_
    refine g_getF (v := .int (cv F b0)) (T := TX5) (ref := "ChiefGrades$Chief") K hin_X5 (gF_at (j := 1) hF hb hk0 (by decide)) rfl 2 (by decide) u_263 (Or.inl rfl) rfl dX0_grades_12 ?_
    refine g_isub K dX0_grades_15 ?_
    obtain rfl := Option.some.inj h
    exact hret _ _ _ _ dX0_grades_16 rfl ⟨rfl, rfl⟩

set_option maxRecDepth 100000 in
theorem ctX0_grades_k1 {E : gE} {q : Nat → Nat} {r : Nat → Nat → Nat} {F : gF} (hF : gFz E F) {b0 : Nat} (hb : chv F b0 = true) (hk0 : ck F b0 = 1) (o0 : Nat → Int32) (A0 : Nat → Nat → Int32) (C0 : Nat → Option Nat) (h0 : Nat) (o1 : Nat → Int32) (A1 : Nat → Nat → Int32) (C1 : Nat → Option Nat) (h1 : Nat) (o2 : Nat → Int32) (A2 : Nat → Nat → Int32) (C2 : Nat → Option Nat) (h2 : Nat) (gs0 : Int32) (gA : Nat → Nat → Int32) (tb0 : Int32) (tA0 bf0 : Nat → Int32) (hi0 : Int32) (x1 : Int32) {res : Int32 × Int32 × ((Nat → Int32))} (h : pX0_grades_k1 F b0 tb0 tA0 x1 = some res) : gMi yX0_grades (.code yX0_grades cX0_grades 3 (some .int) :: gU) ({ frames := 7, cells := 0, slots := 0, locals := 215 } : Room) 0 0 E [.ref b0, .int x1, .ref (q 4)] (cw E q r (gpl F) o0 A0 C0 h0 o1 A1 C1 h1 o2 A2 C2 h2 gs0 gA tb0 tA0 bf0 hi0) (fun v w => v = res.1 ∧ w = cw E q r (gpl F) o0 A0 C0 h0 o1 A1 C1 h1 o2 A2 C2 h2 gs0 gA res.2.1 res.2.2 bf0 hi0) := by
  refine g_met_i (by decide +kernel) (Nat.le_of_ble_eq_true rfl) (fun Γ K hn hE hRm _ hret => ?_)
  subst hE
  have hlt : ∀ i, i < 3 → i < g_n Γ := fun i q => by rw [hn]; exact q
  refine g_ws (ws' := cw (g_E Γ) q r (gpl F) o0 A0 C0 h0 o1 A1 C1 h1 o2 A2 C2 h2 gs0 gA tb0 tA0 bf0 hi0) rfl ?_
  refine g_sub (L' := [(0, .ref b0), (1, .int x1), (2, .ref (q 4))]) [0, 1, 2] rfl ?_
  exact wX0_grades_k1 (C0 := C0) (h0 := h0) (C1 := C1) (h1 := h1) (C2 := C2) (h2 := h2) (gs0 := gs0) (tb0 := tb0) (tA0 := tA0) (bf0 := bf0) (hi0 := hi0) hF hb hk0 K hlt hRm hret tb0 tA0 x1 h

set_option maxHeartbeats 4000000 in
set_option maxRecDepth 100000 in
theorem wX0_levels_k1 {Γ : gT} {q : Nat → Nat} {r : Nat → Nat → Nat} {F : gF} (hF : gFz (g_E Γ) F) {o0 : Nat → Int32} {A0 : Nat → Nat → Int32} {C0 : Nat → Option Nat} {h0 : Nat} {o1 : Nat → Int32} {A1 : Nat → Nat → Int32} {C1 : Nat → Option Nat} {h1 : Nat} {o2 : Nat → Int32} {A2 : Nat → Nat → Int32} {C2 : Nat → Option Nat} {h2 : Nat} {gs0 : Int32} {gA : Nat → Nat → Int32} {tb0 : Int32} {tA0 bf0 : Nat → Int32} {hi0 : Int32} {b0 : Nat} (hb : chv F b0 = true) (hk0 : ck F b0 = 1) (K : gOK Γ cX0_levels gU RX0) (hlt : ∀ i, i < 3 → i < g_n Γ) (hRm : g_R Γ = ({ frames := 8, cells := 0, slots := 0, locals := 237 } : Room)) {res : Int32 × Int32 × ((Nat → Int32))} (hret : ∀ (pc : Nat) (L : List (Nat × Value)) (v : Int32) (w : va_W), decode cX0_levels pc = .ok (.ireturn, 1) → narrow .int (.int v) = .int v → (v = res.1 ∧ w = cw (g_E Γ) q r (gpl F) o0 A0 C0 h0 o1 A1 C1 h1 o2 A2 C2 h2 gs0 gA res.2.1 res.2.2 bf0 hi0) → gGO Γ 0 0 pc L [.int v] w) (tb : Int32) (ta : (Nat → Int32)) (x1 : Int32) (h : pX0_levels_k1 F b0 tb ta x1 = some res) : gGO Γ 0 0 0 [(0, .ref b0), (1, .int x1), (2, .ref (q 4))] [] (cw (g_E Γ) q r (gpl F) o0 A0 C0 h0 o1 A1 C1 h1 o2 A2 C2 h2 gs0 gA tb ta bf0 hi0) := by
    unfold pX0_levels_k1 at h
    refine g_aload_n K dX0_levels_0 rfl 2 rfl ?_
    refine g_iconst (v := 3) K dX0_levels_1 (by decide) ?_
    obtain ⟨z_1, hz_1, h⟩ := gi_bd h
    refine g_callVv (As := [.int 3]) (bytes := cX8_begin) (maxL := 2) (ret := none) K (ctX8_begin hF o0 A0 C0 h0 o1 A1 C1 h1 o2 A2 C2 h2 gs0 gA tb ta bf0 hi0 3 (res := z_1) hz_1) gc_V_RX0_43_X8_begin rfl qv_X8_begin 5 rfl rfl rfl hRm rfl rfl rfl (by decide) (Nat.le_of_ble_eq_true rfl) (by decide) dX0_levels_2 (fun w hw => ?_)
    subst hw
    refine g_ws (ws' := cw (g_E Γ) q r (gpl F) o0 A0 C0 h0 o1 A1 C1 h1 o2 A2 C2 h2 gs0 gA z_1.1 z_1.2 bf0 hi0) rfl ?_
    refine g_aload_n K dX0_levels_5 rfl 0 rfl ?_
    refine g_iload_n K dX0_levels_6 rfl 1 rfl ?_
    refine g_aload_n K dX0_levels_7 rfl 2 rfl ?_
    obtain ⟨z_2, hz_2, h⟩ := gi_bd h
    refine g_callUiF (n := 2) (owner := "ChiefGrades$Chief") (x := ⟨"ChiefGrades$Chief", "grades", "(ILChiefGrades$Trace;)I"⟩) (As := [.int x1, .ref (q 4)]) (bytes := cX0_grades) (maxL := 3) (ret := (some .int)) K (ctX0_grades_k1 hF (b0 := b0) hb hk0 o0 A0 C0 h0 o1 A1 C1 h1 o2 A2 C2 h2 gs0 gA z_1.1 z_1.2 bf0 hi0 x1 (res := z_2) hz_2) gc_UX5_RX0_53_X0_grades rfl rfl (by decide +kernel) (gF_at (j := 1) hF hb hk0 (by decide)) rfl rfl hRm rfl rfl rfl (by decide) (Nat.le_of_ble_eq_true rfl) (by decide) dX0_levels_8 (fun v w hw => ?_)
    obtain ⟨hv9, rfl⟩ := hw; have hv9 := hv9.symm; subst hv9
    refine g_ws (ws' := cw (g_E Γ) q r (gpl F) o0 A0 C0 h0 o1 A1 C1 h1 o2 A2 C2 h2 gs0 gA z_2.2.1 z_2.2.2 bf0 hi0) rfl ?_
    refine g_iconst (v := 2) K dX0_levels_11 (by decide) ?_
    refine g_imul K dX0_levels_12 ?_
    obtain rfl := Option.some.inj h
    exact hret _ _ _ _ dX0_levels_13 rfl ⟨rfl, rfl⟩

set_option maxRecDepth 100000 in
theorem ctX0_levels_k1 {E : gE} {q : Nat → Nat} {r : Nat → Nat → Nat} {F : gF} (hF : gFz E F) {b0 : Nat} (hb : chv F b0 = true) (hk0 : ck F b0 = 1) (o0 : Nat → Int32) (A0 : Nat → Nat → Int32) (C0 : Nat → Option Nat) (h0 : Nat) (o1 : Nat → Int32) (A1 : Nat → Nat → Int32) (C1 : Nat → Option Nat) (h1 : Nat) (o2 : Nat → Int32) (A2 : Nat → Nat → Int32) (C2 : Nat → Option Nat) (h2 : Nat) (gs0 : Int32) (gA : Nat → Nat → Int32) (tb0 : Int32) (tA0 bf0 : Nat → Int32) (hi0 : Int32) (x1 : Int32) {res : Int32 × Int32 × ((Nat → Int32))} (h : pX0_levels_k1 F b0 tb0 tA0 x1 = some res) : gMi yX0_levels (.code yX0_levels cX0_levels 3 (some .int) :: gU) ({ frames := 8, cells := 0, slots := 0, locals := 237 } : Room) 0 0 E [.ref b0, .int x1, .ref (q 4)] (cw E q r (gpl F) o0 A0 C0 h0 o1 A1 C1 h1 o2 A2 C2 h2 gs0 gA tb0 tA0 bf0 hi0) (fun v w => v = res.1 ∧ w = cw E q r (gpl F) o0 A0 C0 h0 o1 A1 C1 h1 o2 A2 C2 h2 gs0 gA res.2.1 res.2.2 bf0 hi0) := by
  refine g_met_i (by decide +kernel) (Nat.le_of_ble_eq_true rfl) (fun Γ K hn hE hRm _ hret => ?_)
  subst hE
  have hlt : ∀ i, i < 3 → i < g_n Γ := fun i q => by rw [hn]; exact q
  refine g_ws (ws' := cw (g_E Γ) q r (gpl F) o0 A0 C0 h0 o1 A1 C1 h1 o2 A2 C2 h2 gs0 gA tb0 tA0 bf0 hi0) rfl ?_
  refine g_sub (L' := [(0, .ref b0), (1, .int x1), (2, .ref (q 4))]) [0, 1, 2] rfl ?_
  exact wX0_levels_k1 (C0 := C0) (h0 := h0) (C1 := C1) (h1 := h1) (C2 := C2) (h2 := h2) (gs0 := gs0) (tb0 := tb0) (tA0 := tA0) (bf0 := bf0) (hi0 := hi0) hF hb hk0 K hlt hRm hret tb0 tA0 x1 h

set_option maxHeartbeats 4000000 in
set_option maxRecDepth 100000 in
theorem wX0_works_k2 {Γ : gT} {q : Nat → Nat} {r : Nat → Nat → Nat} {F : gF} (hF : gFz (g_E Γ) F) {o0 : Nat → Int32} {A0 : Nat → Nat → Int32} {C0 : Nat → Option Nat} {h0 : Nat} {o1 : Nat → Int32} {A1 : Nat → Nat → Int32} {C1 : Nat → Option Nat} {h1 : Nat} {o2 : Nat → Int32} {A2 : Nat → Nat → Int32} {C2 : Nat → Option Nat} {h2 : Nat} {gs0 : Int32} {gA : Nat → Nat → Int32} {tb0 : Int32} {tA0 bf0 : Nat → Int32} {hi0 : Int32} {b0 : Nat} (hb : chv F b0 = true) (hk0 : ck F b0 = 2) (K : gOK Γ cX0_works gU RX0) (hlt : ∀ i, i < 3 → i < g_n Γ) (hRm : g_R Γ = ({ frames := 5, cells := 0, slots := 0, locals := 171 } : Room)) {res : Int32 × Int32 × ((Nat → Int32))} (hret : ∀ (pc : Nat) (L : List (Nat × Value)) (v : Int32) (w : va_W), decode cX0_works pc = .ok (.ireturn, 1) → narrow .int (.int v) = .int v → (v = res.1 ∧ w = cw (g_E Γ) q r (gpl F) o0 A0 C0 h0 o1 A1 C1 h1 o2 A2 C2 h2 gs0 gA res.2.1 res.2.2 bf0 hi0) → gGO Γ 0 0 pc L [.int v] w) (tb : Int32) (ta : (Nat → Int32)) (x1 : Int32) (h : pX0_works_k2 F b0 tb ta x1 = some res) : gGO Γ 0 0 0 [(0, .ref b0), (1, .int x1), (2, .ref (q 4))] [] (cw (g_E Γ) q r (gpl F) o0 A0 C0 h0 o1 A1 C1 h1 o2 A2 C2 h2 gs0 gA tb ta bf0 hi0) := by
    unfold pX0_works_k2 at h
    refine g_aload_n K dX0_works_0 rfl 2 rfl ?_
    refine g_iconst (v := 1) K dX0_works_1 (by decide) ?_
    obtain ⟨z_1, hz_1, h⟩ := gi_bd h
    refine g_callVv (As := [.int 1]) (bytes := cX8_begin) (maxL := 2) (ret := none) K (ctX8_begin hF o0 A0 C0 h0 o1 A1 C1 h1 o2 A2 C2 h2 gs0 gA tb ta bf0 hi0 1 (res := z_1) hz_1) gc_V_RX0_43_X8_begin rfl qv_X8_begin 5 rfl rfl rfl hRm rfl rfl rfl (by decide) (Nat.le_of_ble_eq_true rfl) (by decide) dX0_works_2 (fun w hw => ?_)
    subst hw
    refine g_ws (ws' := cw (g_E Γ) q r (gpl F) o0 A0 C0 h0 o1 A1 C1 h1 o2 A2 C2 h2 gs0 gA z_1.1 z_1.2 bf0 hi0) rfl ?_
    refine g_iload_n K dX0_works_5 rfl 1 rfl ?_
    refine g_aload_n K dX0_works_6 rfl 0 rfl ?_
    refine g_getF (v := .int (cn F b0)) (T := TX9) (ref := "ChiefGrades$Chief") K hin_X9 (gF_at (j := 2) hF hb hk0 (by decide)) rfl 1 (by decide) u_258 (Or.inl rfl) rfl dX0_works_7 ?_
    refine g_iadd K dX0_works_10 ?_
    obtain rfl := Option.some.inj h
    exact hret _ _ _ _ dX0_works_11 rfl ⟨rfl, rfl⟩

set_option maxRecDepth 100000 in
theorem ctX0_works_k2 {E : gE} {q : Nat → Nat} {r : Nat → Nat → Nat} {F : gF} (hF : gFz E F) {b0 : Nat} (hb : chv F b0 = true) (hk0 : ck F b0 = 2) (o0 : Nat → Int32) (A0 : Nat → Nat → Int32) (C0 : Nat → Option Nat) (h0 : Nat) (o1 : Nat → Int32) (A1 : Nat → Nat → Int32) (C1 : Nat → Option Nat) (h1 : Nat) (o2 : Nat → Int32) (A2 : Nat → Nat → Int32) (C2 : Nat → Option Nat) (h2 : Nat) (gs0 : Int32) (gA : Nat → Nat → Int32) (tb0 : Int32) (tA0 bf0 : Nat → Int32) (hi0 : Int32) (x1 : Int32) {res : Int32 × Int32 × ((Nat → Int32))} (h : pX0_works_k2 F b0 tb0 tA0 x1 = some res) : gMi yX0_works (.code yX0_works cX0_works 3 (some .int) :: gU) ({ frames := 5, cells := 0, slots := 0, locals := 171 } : Room) 0 0 E [.ref b0, .int x1, .ref (q 4)] (cw E q r (gpl F) o0 A0 C0 h0 o1 A1 C1 h1 o2 A2 C2 h2 gs0 gA tb0 tA0 bf0 hi0) (fun v w => v = res.1 ∧ w = cw E q r (gpl F) o0 A0 C0 h0 o1 A1 C1 h1 o2 A2 C2 h2 gs0 gA res.2.1 res.2.2 bf0 hi0) := by
  refine g_met_i (by decide +kernel) (Nat.le_of_ble_eq_true rfl) (fun Γ K hn hE hRm _ hret => ?_)
  subst hE
  have hlt : ∀ i, i < 3 → i < g_n Γ := fun i q => by rw [hn]; exact q
  refine g_ws (ws' := cw (g_E Γ) q r (gpl F) o0 A0 C0 h0 o1 A1 C1 h1 o2 A2 C2 h2 gs0 gA tb0 tA0 bf0 hi0) rfl ?_
  refine g_sub (L' := [(0, .ref b0), (1, .int x1), (2, .ref (q 4))]) [0, 1, 2] rfl ?_
  exact wX0_works_k2 (C0 := C0) (h0 := h0) (C1 := C1) (h1 := h1) (C2 := C2) (h2 := h2) (gs0 := gs0) (tb0 := tb0) (tA0 := tA0) (bf0 := bf0) (hi0 := hi0) hF hb hk0 K hlt hRm hret tb0 tA0 x1 h

set_option maxHeartbeats 4000000 in
set_option maxRecDepth 100000 in
theorem wX0_grades_k2 {Γ : gT} {q : Nat → Nat} {r : Nat → Nat → Nat} {F : gF} (hF : gFz (g_E Γ) F) {o0 : Nat → Int32} {A0 : Nat → Nat → Int32} {C0 : Nat → Option Nat} {h0 : Nat} {o1 : Nat → Int32} {A1 : Nat → Nat → Int32} {C1 : Nat → Option Nat} {h1 : Nat} {o2 : Nat → Int32} {A2 : Nat → Nat → Int32} {C2 : Nat → Option Nat} {h2 : Nat} {gs0 : Int32} {gA : Nat → Nat → Int32} {tb0 : Int32} {tA0 bf0 : Nat → Int32} {hi0 : Int32} {b0 : Nat} (hb : chv F b0 = true) (hk0 : ck F b0 = 2) (K : gOK Γ cX0_grades gU RX0) (hlt : ∀ i, i < 3 → i < g_n Γ) (hRm : g_R Γ = ({ frames := 6, cells := 0, slots := 0, locals := 193 } : Room)) {res : Int32 × Int32 × ((Nat → Int32))} (hret : ∀ (pc : Nat) (L : List (Nat × Value)) (v : Int32) (w : va_W), decode cX0_grades pc = .ok (.ireturn, 1) → narrow .int (.int v) = .int v → (v = res.1 ∧ w = cw (g_E Γ) q r (gpl F) o0 A0 C0 h0 o1 A1 C1 h1 o2 A2 C2 h2 gs0 gA res.2.1 res.2.2 bf0 hi0) → gGO Γ 0 0 pc L [.int v] w) (tb : Int32) (ta : (Nat → Int32)) (x1 : Int32) (h : pX0_grades_k2 F b0 tb ta x1 = some res) : gGO Γ 0 0 0 [(0, .ref b0), (1, .int x1), (2, .ref (q 4))] [] (cw (g_E Γ) q r (gpl F) o0 A0 C0 h0 o1 A1 C1 h1 o2 A2 C2 h2 gs0 gA tb ta bf0 hi0) := by
    unfold pX0_grades_k2 at h
    refine g_aload_n K dX0_grades_0 rfl 2 rfl ?_
    refine g_iconst (v := 2) K dX0_grades_1 (by decide) ?_
    obtain ⟨z_1, hz_1, h⟩ := gi_bd h
    refine g_callVv (As := [.int 2]) (bytes := cX8_begin) (maxL := 2) (ret := none) K (ctX8_begin hF o0 A0 C0 h0 o1 A1 C1 h1 o2 A2 C2 h2 gs0 gA tb ta bf0 hi0 2 (res := z_1) hz_1) gc_V_RX0_43_X8_begin rfl qv_X8_begin 5 rfl rfl rfl hRm rfl rfl rfl (by decide) (Nat.le_of_ble_eq_true rfl) (by decide) dX0_grades_2 (fun w hw => ?_)
    subst hw
    refine g_ws (ws' := cw (g_E Γ) q r (gpl F) o0 A0 C0 h0 o1 A1 C1 h1 o2 A2 C2 h2 gs0 gA z_1.1 z_1.2 bf0 hi0) rfl ?_
    refine g_aload_n K dX0_grades_5 rfl 0 rfl ?_
    refine g_iload_n K dX0_grades_6 rfl 1 rfl ?_
    refine g_aload_n K dX0_grades_7 rfl 2 rfl ?_
    obtain ⟨z_2, hz_2, h⟩ := gi_bd h
    refine g_callUiF (n := 2) (owner := "ChiefGrades$Chief") (x := ⟨"ChiefGrades$Chief", "works", "(ILChiefGrades$Trace;)I"⟩) (As := [.int x1, .ref (q 4)]) (bytes := cX0_works) (maxL := 3) (ret := (some .int)) K (ctX0_works_k2 hF (b0 := b0) hb hk0 o0 A0 C0 h0 o1 A1 C1 h1 o2 A2 C2 h2 gs0 gA z_1.1 z_1.2 bf0 hi0 x1 (res := z_2) hz_2) gc_UX9_RX0_49_X0_works rfl rfl (by decide +kernel) (gF_at (j := 2) hF hb hk0 (by decide)) rfl rfl hRm rfl rfl rfl (by decide) (Nat.le_of_ble_eq_true rfl) (by decide) dX0_grades_8 (fun v w hw => ?_)
    obtain ⟨hv9, rfl⟩ := hw; have hv9 := hv9.symm; subst hv9
    refine g_ws (ws' := cw (g_E Γ) q r (gpl F) o0 A0 C0 h0 o1 A1 C1 h1 o2 A2 C2 h2 gs0 gA z_2.2.1 z_2.2.2 bf0 hi0) rfl ?_
    refine g_aload_n K dX0_grades_11 rfl 0 rfl ?_
    refine g_getF (v := .int (cv F b0)) (T := TX9) (ref := "ChiefGrades$Chief") K hin_X9 (gF_at (j := 2) hF hb hk0 (by decide)) rfl 2 (by decide) u_263 (Or.inl rfl) rfl dX0_grades_12 ?_
    refine g_isub K dX0_grades_15 ?_
    obtain rfl := Option.some.inj h
    exact hret _ _ _ _ dX0_grades_16 rfl ⟨rfl, rfl⟩

set_option maxRecDepth 100000 in
theorem ctX0_grades_k2 {E : gE} {q : Nat → Nat} {r : Nat → Nat → Nat} {F : gF} (hF : gFz E F) {b0 : Nat} (hb : chv F b0 = true) (hk0 : ck F b0 = 2) (o0 : Nat → Int32) (A0 : Nat → Nat → Int32) (C0 : Nat → Option Nat) (h0 : Nat) (o1 : Nat → Int32) (A1 : Nat → Nat → Int32) (C1 : Nat → Option Nat) (h1 : Nat) (o2 : Nat → Int32) (A2 : Nat → Nat → Int32) (C2 : Nat → Option Nat) (h2 : Nat) (gs0 : Int32) (gA : Nat → Nat → Int32) (tb0 : Int32) (tA0 bf0 : Nat → Int32) (hi0 : Int32) (x1 : Int32) {res : Int32 × Int32 × ((Nat → Int32))} (h : pX0_grades_k2 F b0 tb0 tA0 x1 = some res) : gMi yX0_grades (.code yX0_grades cX0_grades 3 (some .int) :: gU) ({ frames := 6, cells := 0, slots := 0, locals := 193 } : Room) 0 0 E [.ref b0, .int x1, .ref (q 4)] (cw E q r (gpl F) o0 A0 C0 h0 o1 A1 C1 h1 o2 A2 C2 h2 gs0 gA tb0 tA0 bf0 hi0) (fun v w => v = res.1 ∧ w = cw E q r (gpl F) o0 A0 C0 h0 o1 A1 C1 h1 o2 A2 C2 h2 gs0 gA res.2.1 res.2.2 bf0 hi0) := by
  refine g_met_i (by decide +kernel) (Nat.le_of_ble_eq_true rfl) (fun Γ K hn hE hRm _ hret => ?_)
  subst hE
  have hlt : ∀ i, i < 3 → i < g_n Γ := fun i q => by rw [hn]; exact q
  refine g_ws (ws' := cw (g_E Γ) q r (gpl F) o0 A0 C0 h0 o1 A1 C1 h1 o2 A2 C2 h2 gs0 gA tb0 tA0 bf0 hi0) rfl ?_
  refine g_sub (L' := [(0, .ref b0), (1, .int x1), (2, .ref (q 4))]) [0, 1, 2] rfl ?_
  exact wX0_grades_k2 (C0 := C0) (h0 := h0) (C1 := C1) (h1 := h1) (C2 := C2) (h2 := h2) (gs0 := gs0) (tb0 := tb0) (tA0 := tA0) (bf0 := bf0) (hi0 := hi0) hF hb hk0 K hlt hRm hret tb0 tA0 x1 h

set_option maxHeartbeats 4000000 in
set_option maxRecDepth 100000 in
theorem wX9_grades_k2 {Γ : gT} {q : Nat → Nat} {r : Nat → Nat → Nat} {F : gF} (hF : gFz (g_E Γ) F) {o0 : Nat → Int32} {A0 : Nat → Nat → Int32} {C0 : Nat → Option Nat} {h0 : Nat} {o1 : Nat → Int32} {A1 : Nat → Nat → Int32} {C1 : Nat → Option Nat} {h1 : Nat} {o2 : Nat → Int32} {A2 : Nat → Nat → Int32} {C2 : Nat → Option Nat} {h2 : Nat} {gs0 : Int32} {gA : Nat → Nat → Int32} {tb0 : Int32} {tA0 bf0 : Nat → Int32} {hi0 : Int32} {b0 : Nat} (hb : chv F b0 = true) (hk0 : ck F b0 = 2) (K : gOK Γ cX9_grades gU RX9) (hlt : ∀ i, i < 3 → i < g_n Γ) (hRm : g_R Γ = ({ frames := 7, cells := 0, slots := 0, locals := 215 } : Room)) {res : Int32 × Int32 × ((Nat → Int32))} (hret : ∀ (pc : Nat) (L : List (Nat × Value)) (v : Int32) (w : va_W), decode cX9_grades pc = .ok (.ireturn, 1) → narrow .int (.int v) = .int v → (v = res.1 ∧ w = cw (g_E Γ) q r (gpl F) o0 A0 C0 h0 o1 A1 C1 h1 o2 A2 C2 h2 gs0 gA res.2.1 res.2.2 bf0 hi0) → gGO Γ 0 0 pc L [.int v] w) (tb : Int32) (ta : (Nat → Int32)) (x1 : Int32) (h : pX9_grades_k2 F b0 tb ta x1 = some res) : gGO Γ 0 0 0 [(0, .ref b0), (1, .int x1), (2, .ref (q 4))] [] (cw (g_E Γ) q r (gpl F) o0 A0 C0 h0 o1 A1 C1 h1 o2 A2 C2 h2 gs0 gA tb ta bf0 hi0) := by
    unfold pX9_grades_k2 at h
    refine g_aload_n K dX9_grades_0 rfl 2 rfl ?_
    refine g_bipush (v := 21) K dX9_grades_1 (by decide) ?_
    obtain ⟨z_1, hz_1, h⟩ := gi_bd h
    refine g_callVv (As := [.int 21]) (bytes := cX8_begin) (maxL := 2) (ret := none) K (ctX8_begin hF o0 A0 C0 h0 o1 A1 C1 h1 o2 A2 C2 h2 gs0 gA tb ta bf0 hi0 21 (res := z_1) hz_1) gc_V_RX9_7_X8_begin rfl qv_X8_begin 5 rfl rfl rfl hRm rfl rfl rfl (by decide) (Nat.le_of_ble_eq_true rfl) (by decide) dX9_grades_3 (fun w hw => ?_)
    subst hw
    refine g_ws (ws' := cw (g_E Γ) q r (gpl F) o0 A0 C0 h0 o1 A1 C1 h1 o2 A2 C2 h2 gs0 gA z_1.1 z_1.2 bf0 hi0) rfl ?_
    refine g_aload_n K dX9_grades_6 rfl 0 rfl ?_
    refine g_iload_n K dX9_grades_7 rfl 1 rfl ?_
    refine g_aload_n K dX9_grades_8 rfl 2 rfl ?_
    obtain ⟨z_2, hz_2, h⟩ := gi_bd h
    refine g_callSUiF (As := [.int x1, .ref (q 4)]) (bytes := cX0_grades) (maxL := 3) (ret := (some .int)) K (ctX0_grades_k2 hF (b0 := b0) hb hk0 o0 A0 C0 h0 o1 A1 C1 h1 o2 A2 C2 h2 gs0 gA z_1.1 z_1.2 bf0 hi0 x1 (res := z_2) hz_2) gc_SU_RX9_13_X0_grades rfl qsu_X0_grades (gF_at (j := 2) hF hb hk0 (by decide)) rfl rfl hRm rfl rfl rfl (by decide) (Nat.le_of_ble_eq_true rfl) (by decide) dX9_grades_9 (fun v w hw => ?_)
    obtain ⟨hv9, rfl⟩ := hw; have hv9 := hv9.symm; subst hv9
    refine g_ws (ws' := cw (g_E Γ) q r (gpl F) o0 A0 C0 h0 o1 A1 C1 h1 o2 A2 C2 h2 gs0 gA z_2.2.1 z_2.2.2 bf0 hi0) rfl ?_
    refine g_ineg K dX9_grades_12 ?_
    obtain rfl := Option.some.inj h
    exact hret _ _ _ _ dX9_grades_13 rfl ⟨rfl, rfl⟩

set_option maxRecDepth 100000 in
theorem ctX9_grades_k2 {E : gE} {q : Nat → Nat} {r : Nat → Nat → Nat} {F : gF} (hF : gFz E F) {b0 : Nat} (hb : chv F b0 = true) (hk0 : ck F b0 = 2) (o0 : Nat → Int32) (A0 : Nat → Nat → Int32) (C0 : Nat → Option Nat) (h0 : Nat) (o1 : Nat → Int32) (A1 : Nat → Nat → Int32) (C1 : Nat → Option Nat) (h1 : Nat) (o2 : Nat → Int32) (A2 : Nat → Nat → Int32) (C2 : Nat → Option Nat) (h2 : Nat) (gs0 : Int32) (gA : Nat → Nat → Int32) (tb0 : Int32) (tA0 bf0 : Nat → Int32) (hi0 : Int32) (x1 : Int32) {res : Int32 × Int32 × ((Nat → Int32))} (h : pX9_grades_k2 F b0 tb0 tA0 x1 = some res) : gMi yX9_grades (.code yX9_grades cX9_grades 3 (some .int) :: gU) ({ frames := 7, cells := 0, slots := 0, locals := 215 } : Room) 0 0 E [.ref b0, .int x1, .ref (q 4)] (cw E q r (gpl F) o0 A0 C0 h0 o1 A1 C1 h1 o2 A2 C2 h2 gs0 gA tb0 tA0 bf0 hi0) (fun v w => v = res.1 ∧ w = cw E q r (gpl F) o0 A0 C0 h0 o1 A1 C1 h1 o2 A2 C2 h2 gs0 gA res.2.1 res.2.2 bf0 hi0) := by
  refine g_met_i (by decide +kernel) (Nat.le_of_ble_eq_true rfl) (fun Γ K hn hE hRm _ hret => ?_)
  subst hE
  have hlt : ∀ i, i < 3 → i < g_n Γ := fun i q => by rw [hn]; exact q
  refine g_ws (ws' := cw (g_E Γ) q r (gpl F) o0 A0 C0 h0 o1 A1 C1 h1 o2 A2 C2 h2 gs0 gA tb0 tA0 bf0 hi0) rfl ?_
  refine g_sub (L' := [(0, .ref b0), (1, .int x1), (2, .ref (q 4))]) [0, 1, 2] rfl ?_
  exact wX9_grades_k2 (C0 := C0) (h0 := h0) (C1 := C1) (h1 := h1) (C2 := C2) (h2 := h2) (gs0 := gs0) (tb0 := tb0) (tA0 := tA0) (bf0 := bf0) (hi0 := hi0) hF hb hk0 K hlt hRm hret tb0 tA0 x1 h

set_option maxHeartbeats 4000000 in
set_option maxRecDepth 100000 in
theorem wX0_levels_k2 {Γ : gT} {q : Nat → Nat} {r : Nat → Nat → Nat} {F : gF} (hF : gFz (g_E Γ) F) {o0 : Nat → Int32} {A0 : Nat → Nat → Int32} {C0 : Nat → Option Nat} {h0 : Nat} {o1 : Nat → Int32} {A1 : Nat → Nat → Int32} {C1 : Nat → Option Nat} {h1 : Nat} {o2 : Nat → Int32} {A2 : Nat → Nat → Int32} {C2 : Nat → Option Nat} {h2 : Nat} {gs0 : Int32} {gA : Nat → Nat → Int32} {tb0 : Int32} {tA0 bf0 : Nat → Int32} {hi0 : Int32} {b0 : Nat} (hb : chv F b0 = true) (hk0 : ck F b0 = 2) (K : gOK Γ cX0_levels gU RX0) (hlt : ∀ i, i < 3 → i < g_n Γ) (hRm : g_R Γ = ({ frames := 8, cells := 0, slots := 0, locals := 237 } : Room)) {res : Int32 × Int32 × ((Nat → Int32))} (hret : ∀ (pc : Nat) (L : List (Nat × Value)) (v : Int32) (w : va_W), decode cX0_levels pc = .ok (.ireturn, 1) → narrow .int (.int v) = .int v → (v = res.1 ∧ w = cw (g_E Γ) q r (gpl F) o0 A0 C0 h0 o1 A1 C1 h1 o2 A2 C2 h2 gs0 gA res.2.1 res.2.2 bf0 hi0) → gGO Γ 0 0 pc L [.int v] w) (tb : Int32) (ta : (Nat → Int32)) (x1 : Int32) (h : pX0_levels_k2 F b0 tb ta x1 = some res) : gGO Γ 0 0 0 [(0, .ref b0), (1, .int x1), (2, .ref (q 4))] [] (cw (g_E Γ) q r (gpl F) o0 A0 C0 h0 o1 A1 C1 h1 o2 A2 C2 h2 gs0 gA tb ta bf0 hi0) := by
    unfold pX0_levels_k2 at h
    refine g_aload_n K dX0_levels_0 rfl 2 rfl ?_
    refine g_iconst (v := 3) K dX0_levels_1 (by decide) ?_
    obtain ⟨z_1, hz_1, h⟩ := gi_bd h
    refine g_callVv (As := [.int 3]) (bytes := cX8_begin) (maxL := 2) (ret := none) K (ctX8_begin hF o0 A0 C0 h0 o1 A1 C1 h1 o2 A2 C2 h2 gs0 gA tb ta bf0 hi0 3 (res := z_1) hz_1) gc_V_RX0_43_X8_begin rfl qv_X8_begin 5 rfl rfl rfl hRm rfl rfl rfl (by decide) (Nat.le_of_ble_eq_true rfl) (by decide) dX0_levels_2 (fun w hw => ?_)
    subst hw
    refine g_ws (ws' := cw (g_E Γ) q r (gpl F) o0 A0 C0 h0 o1 A1 C1 h1 o2 A2 C2 h2 gs0 gA z_1.1 z_1.2 bf0 hi0) rfl ?_
    refine g_aload_n K dX0_levels_5 rfl 0 rfl ?_
    refine g_iload_n K dX0_levels_6 rfl 1 rfl ?_
    refine g_aload_n K dX0_levels_7 rfl 2 rfl ?_
    obtain ⟨z_2, hz_2, h⟩ := gi_bd h
    refine g_callOiF (n := 2) (owner := "ChiefGrades$Chief") (x := ⟨"ChiefGrades$Chief", "grades", "(ILChiefGrades$Trace;)I"⟩) (As := [.int x1, .ref (q 4)]) (bytes := cX9_grades) (maxL := 3) (ret := (some .int)) K (ctX9_grades_k2 hF (b0 := b0) hb hk0 o0 A0 C0 h0 o1 A1 C1 h1 o2 A2 C2 h2 gs0 gA z_1.1 z_1.2 bf0 hi0 x1 (res := z_2) hz_2) gc_OX9_RX0_53_X9_grades rfl u_915 (by decide +kernel) (gF_at (j := 2) hF hb hk0 (by decide)) rfl rfl hRm rfl rfl rfl (by decide) (Nat.le_of_ble_eq_true rfl) (by decide) dX0_levels_8 (fun v w hw => ?_)
    obtain ⟨hv9, rfl⟩ := hw; have hv9 := hv9.symm; subst hv9
    refine g_ws (ws' := cw (g_E Γ) q r (gpl F) o0 A0 C0 h0 o1 A1 C1 h1 o2 A2 C2 h2 gs0 gA z_2.2.1 z_2.2.2 bf0 hi0) rfl ?_
    refine g_iconst (v := 2) K dX0_levels_11 (by decide) ?_
    refine g_imul K dX0_levels_12 ?_
    obtain rfl := Option.some.inj h
    exact hret _ _ _ _ dX0_levels_13 rfl ⟨rfl, rfl⟩

set_option maxRecDepth 100000 in
theorem ctX0_levels_k2 {E : gE} {q : Nat → Nat} {r : Nat → Nat → Nat} {F : gF} (hF : gFz E F) {b0 : Nat} (hb : chv F b0 = true) (hk0 : ck F b0 = 2) (o0 : Nat → Int32) (A0 : Nat → Nat → Int32) (C0 : Nat → Option Nat) (h0 : Nat) (o1 : Nat → Int32) (A1 : Nat → Nat → Int32) (C1 : Nat → Option Nat) (h1 : Nat) (o2 : Nat → Int32) (A2 : Nat → Nat → Int32) (C2 : Nat → Option Nat) (h2 : Nat) (gs0 : Int32) (gA : Nat → Nat → Int32) (tb0 : Int32) (tA0 bf0 : Nat → Int32) (hi0 : Int32) (x1 : Int32) {res : Int32 × Int32 × ((Nat → Int32))} (h : pX0_levels_k2 F b0 tb0 tA0 x1 = some res) : gMi yX0_levels (.code yX0_levels cX0_levels 3 (some .int) :: gU) ({ frames := 8, cells := 0, slots := 0, locals := 237 } : Room) 0 0 E [.ref b0, .int x1, .ref (q 4)] (cw E q r (gpl F) o0 A0 C0 h0 o1 A1 C1 h1 o2 A2 C2 h2 gs0 gA tb0 tA0 bf0 hi0) (fun v w => v = res.1 ∧ w = cw E q r (gpl F) o0 A0 C0 h0 o1 A1 C1 h1 o2 A2 C2 h2 gs0 gA res.2.1 res.2.2 bf0 hi0) := by
  refine g_met_i (by decide +kernel) (Nat.le_of_ble_eq_true rfl) (fun Γ K hn hE hRm _ hret => ?_)
  subst hE
  have hlt : ∀ i, i < 3 → i < g_n Γ := fun i q => by rw [hn]; exact q
  refine g_ws (ws' := cw (g_E Γ) q r (gpl F) o0 A0 C0 h0 o1 A1 C1 h1 o2 A2 C2 h2 gs0 gA tb0 tA0 bf0 hi0) rfl ?_
  refine g_sub (L' := [(0, .ref b0), (1, .int x1), (2, .ref (q 4))]) [0, 1, 2] rfl ?_
  exact wX0_levels_k2 (C0 := C0) (h0 := h0) (C1 := C1) (h1 := h1) (C2 := C2) (h2 := h2) (gs0 := gs0) (tb0 := tb0) (tA0 := tA0) (bf0 := bf0) (hi0 := hi0) hF hb hk0 K hlt hRm hret tb0 tA0 x1 h

set_option maxHeartbeats 4000000 in
set_option maxRecDepth 100000 in
theorem wX0_works_k3 {Γ : gT} {q : Nat → Nat} {r : Nat → Nat → Nat} {F : gF} (hF : gFz (g_E Γ) F) {o0 : Nat → Int32} {A0 : Nat → Nat → Int32} {C0 : Nat → Option Nat} {h0 : Nat} {o1 : Nat → Int32} {A1 : Nat → Nat → Int32} {C1 : Nat → Option Nat} {h1 : Nat} {o2 : Nat → Int32} {A2 : Nat → Nat → Int32} {C2 : Nat → Option Nat} {h2 : Nat} {gs0 : Int32} {gA : Nat → Nat → Int32} {tb0 : Int32} {tA0 bf0 : Nat → Int32} {hi0 : Int32} {b0 : Nat} (hb : chv F b0 = true) (hk0 : ck F b0 = 3) (K : gOK Γ cX0_works gU RX0) (hlt : ∀ i, i < 3 → i < g_n Γ) (hRm : g_R Γ = ({ frames := 5, cells := 0, slots := 0, locals := 171 } : Room)) {res : Int32 × Int32 × ((Nat → Int32))} (hret : ∀ (pc : Nat) (L : List (Nat × Value)) (v : Int32) (w : va_W), decode cX0_works pc = .ok (.ireturn, 1) → narrow .int (.int v) = .int v → (v = res.1 ∧ w = cw (g_E Γ) q r (gpl F) o0 A0 C0 h0 o1 A1 C1 h1 o2 A2 C2 h2 gs0 gA res.2.1 res.2.2 bf0 hi0) → gGO Γ 0 0 pc L [.int v] w) (tb : Int32) (ta : (Nat → Int32)) (x1 : Int32) (h : pX0_works_k3 F b0 tb ta x1 = some res) : gGO Γ 0 0 0 [(0, .ref b0), (1, .int x1), (2, .ref (q 4))] [] (cw (g_E Γ) q r (gpl F) o0 A0 C0 h0 o1 A1 C1 h1 o2 A2 C2 h2 gs0 gA tb ta bf0 hi0) := by
    unfold pX0_works_k3 at h
    refine g_aload_n K dX0_works_0 rfl 2 rfl ?_
    refine g_iconst (v := 1) K dX0_works_1 (by decide) ?_
    obtain ⟨z_1, hz_1, h⟩ := gi_bd h
    refine g_callVv (As := [.int 1]) (bytes := cX8_begin) (maxL := 2) (ret := none) K (ctX8_begin hF o0 A0 C0 h0 o1 A1 C1 h1 o2 A2 C2 h2 gs0 gA tb ta bf0 hi0 1 (res := z_1) hz_1) gc_V_RX0_43_X8_begin rfl qv_X8_begin 5 rfl rfl rfl hRm rfl rfl rfl (by decide) (Nat.le_of_ble_eq_true rfl) (by decide) dX0_works_2 (fun w hw => ?_)
    subst hw
    refine g_ws (ws' := cw (g_E Γ) q r (gpl F) o0 A0 C0 h0 o1 A1 C1 h1 o2 A2 C2 h2 gs0 gA z_1.1 z_1.2 bf0 hi0) rfl ?_
    refine g_iload_n K dX0_works_5 rfl 1 rfl ?_
    refine g_aload_n K dX0_works_6 rfl 0 rfl ?_
    refine g_getF (v := .int (cn F b0)) (T := TX4) (ref := "ChiefGrades$Chief") K hin_X4 (gF_at (j := 3) hF hb hk0 (by decide)) rfl 1 (by decide) u_258 (Or.inl rfl) rfl dX0_works_7 ?_
    refine g_iadd K dX0_works_10 ?_
    obtain rfl := Option.some.inj h
    exact hret _ _ _ _ dX0_works_11 rfl ⟨rfl, rfl⟩

set_option maxRecDepth 100000 in
theorem ctX0_works_k3 {E : gE} {q : Nat → Nat} {r : Nat → Nat → Nat} {F : gF} (hF : gFz E F) {b0 : Nat} (hb : chv F b0 = true) (hk0 : ck F b0 = 3) (o0 : Nat → Int32) (A0 : Nat → Nat → Int32) (C0 : Nat → Option Nat) (h0 : Nat) (o1 : Nat → Int32) (A1 : Nat → Nat → Int32) (C1 : Nat → Option Nat) (h1 : Nat) (o2 : Nat → Int32) (A2 : Nat → Nat → Int32) (C2 : Nat → Option Nat) (h2 : Nat) (gs0 : Int32) (gA : Nat → Nat → Int32) (tb0 : Int32) (tA0 bf0 : Nat → Int32) (hi0 : Int32) (x1 : Int32) {res : Int32 × Int32 × ((Nat → Int32))} (h : pX0_works_k3 F b0 tb0 tA0 x1 = some res) : gMi yX0_works (.code yX0_works cX0_works 3 (some .int) :: gU) ({ frames := 5, cells := 0, slots := 0, locals := 171 } : Room) 0 0 E [.ref b0, .int x1, .ref (q 4)] (cw E q r (gpl F) o0 A0 C0 h0 o1 A1 C1 h1 o2 A2 C2 h2 gs0 gA tb0 tA0 bf0 hi0) (fun v w => v = res.1 ∧ w = cw E q r (gpl F) o0 A0 C0 h0 o1 A1 C1 h1 o2 A2 C2 h2 gs0 gA res.2.1 res.2.2 bf0 hi0) := by
  refine g_met_i (by decide +kernel) (Nat.le_of_ble_eq_true rfl) (fun Γ K hn hE hRm _ hret => ?_)
  subst hE
  have hlt : ∀ i, i < 3 → i < g_n Γ := fun i q => by rw [hn]; exact q
  refine g_ws (ws' := cw (g_E Γ) q r (gpl F) o0 A0 C0 h0 o1 A1 C1 h1 o2 A2 C2 h2 gs0 gA tb0 tA0 bf0 hi0) rfl ?_
  refine g_sub (L' := [(0, .ref b0), (1, .int x1), (2, .ref (q 4))]) [0, 1, 2] rfl ?_
  exact wX0_works_k3 (C0 := C0) (h0 := h0) (C1 := C1) (h1 := h1) (C2 := C2) (h2 := h2) (gs0 := gs0) (tb0 := tb0) (tA0 := tA0) (bf0 := bf0) (hi0 := hi0) hF hb hk0 K hlt hRm hret tb0 tA0 x1 h

set_option maxHeartbeats 4000000 in
set_option maxRecDepth 100000 in
theorem wX0_grades_k3 {Γ : gT} {q : Nat → Nat} {r : Nat → Nat → Nat} {F : gF} (hF : gFz (g_E Γ) F) {o0 : Nat → Int32} {A0 : Nat → Nat → Int32} {C0 : Nat → Option Nat} {h0 : Nat} {o1 : Nat → Int32} {A1 : Nat → Nat → Int32} {C1 : Nat → Option Nat} {h1 : Nat} {o2 : Nat → Int32} {A2 : Nat → Nat → Int32} {C2 : Nat → Option Nat} {h2 : Nat} {gs0 : Int32} {gA : Nat → Nat → Int32} {tb0 : Int32} {tA0 bf0 : Nat → Int32} {hi0 : Int32} {b0 : Nat} (hb : chv F b0 = true) (hk0 : ck F b0 = 3) (K : gOK Γ cX0_grades gU RX0) (hlt : ∀ i, i < 3 → i < g_n Γ) (hRm : g_R Γ = ({ frames := 6, cells := 0, slots := 0, locals := 193 } : Room)) {res : Int32 × Int32 × ((Nat → Int32))} (hret : ∀ (pc : Nat) (L : List (Nat × Value)) (v : Int32) (w : va_W), decode cX0_grades pc = .ok (.ireturn, 1) → narrow .int (.int v) = .int v → (v = res.1 ∧ w = cw (g_E Γ) q r (gpl F) o0 A0 C0 h0 o1 A1 C1 h1 o2 A2 C2 h2 gs0 gA res.2.1 res.2.2 bf0 hi0) → gGO Γ 0 0 pc L [.int v] w) (tb : Int32) (ta : (Nat → Int32)) (x1 : Int32) (h : pX0_grades_k3 F b0 tb ta x1 = some res) : gGO Γ 0 0 0 [(0, .ref b0), (1, .int x1), (2, .ref (q 4))] [] (cw (g_E Γ) q r (gpl F) o0 A0 C0 h0 o1 A1 C1 h1 o2 A2 C2 h2 gs0 gA tb ta bf0 hi0) := by
    unfold pX0_grades_k3 at h
    refine g_aload_n K dX0_grades_0 rfl 2 rfl ?_
    refine g_iconst (v := 2) K dX0_grades_1 (by decide) ?_
    obtain ⟨z_1, hz_1, h⟩ := gi_bd h
    refine g_callVv (As := [.int 2]) (bytes := cX8_begin) (maxL := 2) (ret := none) K (ctX8_begin hF o0 A0 C0 h0 o1 A1 C1 h1 o2 A2 C2 h2 gs0 gA tb ta bf0 hi0 2 (res := z_1) hz_1) gc_V_RX0_43_X8_begin rfl qv_X8_begin 5 rfl rfl rfl hRm rfl rfl rfl (by decide) (Nat.le_of_ble_eq_true rfl) (by decide) dX0_grades_2 (fun w hw => ?_)
    subst hw
    refine g_ws (ws' := cw (g_E Γ) q r (gpl F) o0 A0 C0 h0 o1 A1 C1 h1 o2 A2 C2 h2 gs0 gA z_1.1 z_1.2 bf0 hi0) rfl ?_
    refine g_aload_n K dX0_grades_5 rfl 0 rfl ?_
    refine g_iload_n K dX0_grades_6 rfl 1 rfl ?_
    refine g_aload_n K dX0_grades_7 rfl 2 rfl ?_
    obtain ⟨z_2, hz_2, h⟩ := gi_bd h
    refine g_callUiF (n := 2) (owner := "ChiefGrades$Chief") (x := ⟨"ChiefGrades$Chief", "works", "(ILChiefGrades$Trace;)I"⟩) (As := [.int x1, .ref (q 4)]) (bytes := cX0_works) (maxL := 3) (ret := (some .int)) K (ctX0_works_k3 hF (b0 := b0) hb hk0 o0 A0 C0 h0 o1 A1 C1 h1 o2 A2 C2 h2 gs0 gA z_1.1 z_1.2 bf0 hi0 x1 (res := z_2) hz_2) gc_UX4_RX0_49_X0_works rfl rfl (by decide +kernel) (gF_at (j := 3) hF hb hk0 (by decide)) rfl rfl hRm rfl rfl rfl (by decide) (Nat.le_of_ble_eq_true rfl) (by decide) dX0_grades_8 (fun v w hw => ?_)
    obtain ⟨hv9, rfl⟩ := hw; have hv9 := hv9.symm; subst hv9
    refine g_ws (ws' := cw (g_E Γ) q r (gpl F) o0 A0 C0 h0 o1 A1 C1 h1 o2 A2 C2 h2 gs0 gA z_2.2.1 z_2.2.2 bf0 hi0) rfl ?_
    refine g_aload_n K dX0_grades_11 rfl 0 rfl ?_
    refine g_getF (v := .int (cv F b0)) (T := TX4) (ref := "ChiefGrades$Chief") K hin_X4 (gF_at (j := 3) hF hb hk0 (by decide)) rfl 2 (by decide) u_263 (Or.inl rfl) rfl dX0_grades_12 ?_
    refine g_isub K dX0_grades_15 ?_
    obtain rfl := Option.some.inj h
    exact hret _ _ _ _ dX0_grades_16 rfl ⟨rfl, rfl⟩

set_option maxRecDepth 100000 in
theorem ctX0_grades_k3 {E : gE} {q : Nat → Nat} {r : Nat → Nat → Nat} {F : gF} (hF : gFz E F) {b0 : Nat} (hb : chv F b0 = true) (hk0 : ck F b0 = 3) (o0 : Nat → Int32) (A0 : Nat → Nat → Int32) (C0 : Nat → Option Nat) (h0 : Nat) (o1 : Nat → Int32) (A1 : Nat → Nat → Int32) (C1 : Nat → Option Nat) (h1 : Nat) (o2 : Nat → Int32) (A2 : Nat → Nat → Int32) (C2 : Nat → Option Nat) (h2 : Nat) (gs0 : Int32) (gA : Nat → Nat → Int32) (tb0 : Int32) (tA0 bf0 : Nat → Int32) (hi0 : Int32) (x1 : Int32) {res : Int32 × Int32 × ((Nat → Int32))} (h : pX0_grades_k3 F b0 tb0 tA0 x1 = some res) : gMi yX0_grades (.code yX0_grades cX0_grades 3 (some .int) :: gU) ({ frames := 6, cells := 0, slots := 0, locals := 193 } : Room) 0 0 E [.ref b0, .int x1, .ref (q 4)] (cw E q r (gpl F) o0 A0 C0 h0 o1 A1 C1 h1 o2 A2 C2 h2 gs0 gA tb0 tA0 bf0 hi0) (fun v w => v = res.1 ∧ w = cw E q r (gpl F) o0 A0 C0 h0 o1 A1 C1 h1 o2 A2 C2 h2 gs0 gA res.2.1 res.2.2 bf0 hi0) := by
  refine g_met_i (by decide +kernel) (Nat.le_of_ble_eq_true rfl) (fun Γ K hn hE hRm _ hret => ?_)
  subst hE
  have hlt : ∀ i, i < 3 → i < g_n Γ := fun i q => by rw [hn]; exact q
  refine g_ws (ws' := cw (g_E Γ) q r (gpl F) o0 A0 C0 h0 o1 A1 C1 h1 o2 A2 C2 h2 gs0 gA tb0 tA0 bf0 hi0) rfl ?_
  refine g_sub (L' := [(0, .ref b0), (1, .int x1), (2, .ref (q 4))]) [0, 1, 2] rfl ?_
  exact wX0_grades_k3 (C0 := C0) (h0 := h0) (C1 := C1) (h1 := h1) (C2 := C2) (h2 := h2) (gs0 := gs0) (tb0 := tb0) (tA0 := tA0) (bf0 := bf0) (hi0 := hi0) hF hb hk0 K hlt hRm hret tb0 tA0 x1 h

set_option maxHeartbeats 4000000 in
set_option maxRecDepth 100000 in
theorem wX0_levels_k3 {Γ : gT} {q : Nat → Nat} {r : Nat → Nat → Nat} {F : gF} (hF : gFz (g_E Γ) F) {o0 : Nat → Int32} {A0 : Nat → Nat → Int32} {C0 : Nat → Option Nat} {h0 : Nat} {o1 : Nat → Int32} {A1 : Nat → Nat → Int32} {C1 : Nat → Option Nat} {h1 : Nat} {o2 : Nat → Int32} {A2 : Nat → Nat → Int32} {C2 : Nat → Option Nat} {h2 : Nat} {gs0 : Int32} {gA : Nat → Nat → Int32} {tb0 : Int32} {tA0 bf0 : Nat → Int32} {hi0 : Int32} {b0 : Nat} (hb : chv F b0 = true) (hk0 : ck F b0 = 3) (K : gOK Γ cX0_levels gU RX0) (hlt : ∀ i, i < 3 → i < g_n Γ) (hRm : g_R Γ = ({ frames := 7, cells := 0, slots := 0, locals := 215 } : Room)) {res : Int32 × Int32 × ((Nat → Int32))} (hret : ∀ (pc : Nat) (L : List (Nat × Value)) (v : Int32) (w : va_W), decode cX0_levels pc = .ok (.ireturn, 1) → narrow .int (.int v) = .int v → (v = res.1 ∧ w = cw (g_E Γ) q r (gpl F) o0 A0 C0 h0 o1 A1 C1 h1 o2 A2 C2 h2 gs0 gA res.2.1 res.2.2 bf0 hi0) → gGO Γ 0 0 pc L [.int v] w) (tb : Int32) (ta : (Nat → Int32)) (x1 : Int32) (h : pX0_levels_k3 F b0 tb ta x1 = some res) : gGO Γ 0 0 0 [(0, .ref b0), (1, .int x1), (2, .ref (q 4))] [] (cw (g_E Γ) q r (gpl F) o0 A0 C0 h0 o1 A1 C1 h1 o2 A2 C2 h2 gs0 gA tb ta bf0 hi0) := by
    unfold pX0_levels_k3 at h
    refine g_aload_n K dX0_levels_0 rfl 2 rfl ?_
    refine g_iconst (v := 3) K dX0_levels_1 (by decide) ?_
    obtain ⟨z_1, hz_1, h⟩ := gi_bd h
    refine g_callVv (As := [.int 3]) (bytes := cX8_begin) (maxL := 2) (ret := none) K (ctX8_begin hF o0 A0 C0 h0 o1 A1 C1 h1 o2 A2 C2 h2 gs0 gA tb ta bf0 hi0 3 (res := z_1) hz_1) gc_V_RX0_43_X8_begin rfl qv_X8_begin 5 rfl rfl rfl hRm rfl rfl rfl (by decide) (Nat.le_of_ble_eq_true rfl) (by decide) dX0_levels_2 (fun w hw => ?_)
    subst hw
    refine g_ws (ws' := cw (g_E Γ) q r (gpl F) o0 A0 C0 h0 o1 A1 C1 h1 o2 A2 C2 h2 gs0 gA z_1.1 z_1.2 bf0 hi0) rfl ?_
    refine g_aload_n K dX0_levels_5 rfl 0 rfl ?_
    refine g_iload_n K dX0_levels_6 rfl 1 rfl ?_
    refine g_aload_n K dX0_levels_7 rfl 2 rfl ?_
    obtain ⟨z_2, hz_2, h⟩ := gi_bd h
    refine g_callUiF (n := 2) (owner := "ChiefGrades$Chief") (x := ⟨"ChiefGrades$Chief", "grades", "(ILChiefGrades$Trace;)I"⟩) (As := [.int x1, .ref (q 4)]) (bytes := cX0_grades) (maxL := 3) (ret := (some .int)) K (ctX0_grades_k3 hF (b0 := b0) hb hk0 o0 A0 C0 h0 o1 A1 C1 h1 o2 A2 C2 h2 gs0 gA z_1.1 z_1.2 bf0 hi0 x1 (res := z_2) hz_2) gc_UX4_RX0_53_X0_grades rfl rfl (by decide +kernel) (gF_at (j := 3) hF hb hk0 (by decide)) rfl rfl hRm rfl rfl rfl (by decide) (Nat.le_of_ble_eq_true rfl) (by decide) dX0_levels_8 (fun v w hw => ?_)
    obtain ⟨hv9, rfl⟩ := hw; have hv9 := hv9.symm; subst hv9
    refine g_ws (ws' := cw (g_E Γ) q r (gpl F) o0 A0 C0 h0 o1 A1 C1 h1 o2 A2 C2 h2 gs0 gA z_2.2.1 z_2.2.2 bf0 hi0) rfl ?_
    refine g_iconst (v := 2) K dX0_levels_11 (by decide) ?_
    refine g_imul K dX0_levels_12 ?_
    obtain rfl := Option.some.inj h
    exact hret _ _ _ _ dX0_levels_13 rfl ⟨rfl, rfl⟩

set_option maxRecDepth 100000 in
theorem ctX0_levels_k3 {E : gE} {q : Nat → Nat} {r : Nat → Nat → Nat} {F : gF} (hF : gFz E F) {b0 : Nat} (hb : chv F b0 = true) (hk0 : ck F b0 = 3) (o0 : Nat → Int32) (A0 : Nat → Nat → Int32) (C0 : Nat → Option Nat) (h0 : Nat) (o1 : Nat → Int32) (A1 : Nat → Nat → Int32) (C1 : Nat → Option Nat) (h1 : Nat) (o2 : Nat → Int32) (A2 : Nat → Nat → Int32) (C2 : Nat → Option Nat) (h2 : Nat) (gs0 : Int32) (gA : Nat → Nat → Int32) (tb0 : Int32) (tA0 bf0 : Nat → Int32) (hi0 : Int32) (x1 : Int32) {res : Int32 × Int32 × ((Nat → Int32))} (h : pX0_levels_k3 F b0 tb0 tA0 x1 = some res) : gMi yX0_levels (.code yX0_levels cX0_levels 3 (some .int) :: gU) ({ frames := 7, cells := 0, slots := 0, locals := 215 } : Room) 0 0 E [.ref b0, .int x1, .ref (q 4)] (cw E q r (gpl F) o0 A0 C0 h0 o1 A1 C1 h1 o2 A2 C2 h2 gs0 gA tb0 tA0 bf0 hi0) (fun v w => v = res.1 ∧ w = cw E q r (gpl F) o0 A0 C0 h0 o1 A1 C1 h1 o2 A2 C2 h2 gs0 gA res.2.1 res.2.2 bf0 hi0) := by
  refine g_met_i (by decide +kernel) (Nat.le_of_ble_eq_true rfl) (fun Γ K hn hE hRm _ hret => ?_)
  subst hE
  have hlt : ∀ i, i < 3 → i < g_n Γ := fun i q => by rw [hn]; exact q
  refine g_ws (ws' := cw (g_E Γ) q r (gpl F) o0 A0 C0 h0 o1 A1 C1 h1 o2 A2 C2 h2 gs0 gA tb0 tA0 bf0 hi0) rfl ?_
  refine g_sub (L' := [(0, .ref b0), (1, .int x1), (2, .ref (q 4))]) [0, 1, 2] rfl ?_
  exact wX0_levels_k3 (C0 := C0) (h0 := h0) (C1 := C1) (h1 := h1) (C2 := C2) (h2 := h2) (gs0 := gs0) (tb0 := tb0) (tA0 := tA0) (bf0 := bf0) (hi0 := hi0) hF hb hk0 K hlt hRm hret tb0 tA0 x1 h

