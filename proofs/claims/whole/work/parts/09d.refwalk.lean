set_option maxHeartbeats 4000000 in
set_option maxRecDepth 100000 in
theorem wX12_yearGoes_49 {Γ : gT} {m : Nat} {r : Nat → Nat} {o : Nat → Int32} {A : Nat → Nat → Int32} (K : gOK Γ cX12_yearGoes gU RX12) (hlt : ∀ i, i < 7 → i < g_n Γ) (hRm : g_R Γ = ({ frames := 9, cells := 0, slots := 0, locals := 265 } : Room)) {res : Int32 × ((Nat → Int32)) × ((Nat → Int32)) × ((Nat → Int32)) × ((Nat → Int32)) × ((Nat → Int32)) × ((Nat → Int32)) × ((Nat → Int32))} (hret : ∀ (pc : Nat) (L : List (Nat × Value)) (v : Int32) (w : va_W), decode cX12_yearGoes pc = .ok (.ireturn, 1) → narrow .int (.int v) = .int v → (v = res.1 ∧ w = mw (g_E Γ) m r o (gu (gu (gu (gu (gu (gu (gu A 1 res.2.1) 10 res.2.2.1) 11 res.2.2.2.1) 12 res.2.2.2.2.1) 13 res.2.2.2.2.2.1) 14 res.2.2.2.2.2.2.1) 15 res.2.2.2.2.2.2.2)) → gGO Γ 0 0 pc L [.int v] w) {k21 : (Nat → Int32) → (Nat → Int32) → (Nat → Int32) → (Nat → Int32) → (Nat → Int32) → (Nat → Int32) → (Nat → Int32) → Int32 → Int32 → Int32 → Int32 → Option (Int32 × ((Nat → Int32)) × ((Nat → Int32)) × ((Nat → Int32)) × ((Nat → Int32)) × ((Nat → Int32)) × ((Nat → Int32)) × ((Nat → Int32)))} (hk21 : ∀ (a1 : (Nat → Int32)) (a10 : (Nat → Int32)) (a11 : (Nat → Int32)) (a12 : (Nat → Int32)) (a13 : (Nat → Int32)) (a14 : (Nat → Int32)) (a15 : (Nat → Int32)) (x1 : Int32) (x2 : Int32) (x3 : Int32) (x4 : Int32), k21 a1 a10 a11 a12 a13 a14 a15 x1 x2 x3 x4 = some res → gGO Γ 0 0 21 [(0, .ref m), (1, .int x1), (2, .int x2), (3, .int x3), (4, .int x4)] [] (mw (g_E Γ) m r o (gu (gu (gu (gu (gu (gu (gu A 1 a1) 10 a10) 11 a11) 12 a12) 13 a13) 14 a14) 15 a15))) (a1 : (Nat → Int32)) (a10 : (Nat → Int32)) (a11 : (Nat → Int32)) (a12 : (Nat → Int32)) (a13 : (Nat → Int32)) (a14 : (Nat → Int32)) (a15 : (Nat → Int32)) (x1 : Int32) (x2 : Int32) (x3 : Int32) (x4 : Int32) (y0 : Int32) (h : pX12_yearGoes_49 k21 a1 a10 a11 a12 a13 a14 a15 x1 x2 x3 x4 y0 = some res) : gGO Γ 0 0 49 [(0, .ref m), (1, .int x1), (2, .int x2), (3, .int x3), (4, .int x4)] [.int y0] (mw (g_E Γ) m r o (gu (gu (gu (gu (gu (gu (gu A 1 a1) 10 a10) 11 a11) 12 a12) 13 a13) 14 a14) 15 a15)) := by
    unfold pX12_yearGoes_49 at h
    refine g_istore (L' := [(5, .int y0), (0, .ref m), (1, .int x1), (2, .int x2), (3, .int x3), (4, .int x4)]) K dX12_yearGoes_49 (hlt _ (by decide)) rfl ?_
    refine g_aload_n K dX12_yearGoes_51 rfl 1 rfl ?_
    refine mg_1 K hin_X12 (u_980) dX12_yearGoes_52 ?_
    refine g_bipush (v := 21) K dX12_yearGoes_55 (by decide) ?_
    refine g_iload K dX12_yearGoes_57 5 rfl ?_
    refine g_iadd K dX12_yearGoes_59 ?_
    obtain ⟨b_1, h⟩ := gi_none h
    refine g_iald (f := a1) K 1 rfl (ginb_in b_1) dX12_yearGoes_60 ?_
    refine g_aload_n K dX12_yearGoes_61 rfl 1 rfl ?_
    refine g_iconst (v := 2) K dX12_yearGoes_62 (by decide) ?_
    obtain ⟨z_2, hz_2, h⟩ := gi_bd h
    refine g_callVi (As := [.int 2]) (bytes := cX12_told) (maxL := 2) (ret := (some .int)) K (ctX12_told o (gu (gu (gu (gu (gu (gu (gu A 1 a1) 10 a10) 11 a11) 12 a12) 13 a13) 14 a14) 15 a15) 2 (res := z_2) hz_2) gc_V_RX12_169_X12_told rfl qv_X12_told 0 rfl rfl rfl hRm rfl rfl rfl (by decide) (Nat.le_of_ble_eq_true rfl) (by decide) dX12_yearGoes_63 (fun v w hw => ?_)
    obtain ⟨hv9, rfl⟩ := hw; have hv9 := hv9.symm; subst hv9
    refine g_iload K dX12_yearGoes_66 0 rfl ?_
    refine g_imul K dX12_yearGoes_68 ?_
    refine g_iadd K dX12_yearGoes_69 ?_
    obtain ⟨v_3, ev_3, h⟩ := gi_nm h
    refine g_topi ev_3 ?_
    refine g_istore (L' := [(6, .int v_3), (5, .int y0), (0, .ref m), (1, .int x1), (2, .int x2), (3, .int x3), (4, .int x4)]) K dX12_yearGoes_70 (hlt _ (by decide)) rfl ?_
    refine g_aload_n K dX12_yearGoes_72 rfl 2 rfl ?_
    refine mg_1 K hin_X12 (u_980) dX12_yearGoes_73 ?_
    refine g_bipush (v := 21) K dX12_yearGoes_76 (by decide) ?_
    refine g_iload K dX12_yearGoes_78 6 rfl ?_
    refine g_iadd K dX12_yearGoes_80 ?_
    refine g_iload K dX12_yearGoes_81 0 rfl ?_
    refine g_sipush (v := 9999) K dX12_yearGoes_83 (by decide) ?_
    obtain ⟨ht9, hf9⟩ := gi_br h; clear h
    refine g_icmp_le (tgt := 95) K dX12_yearGoes_86 (by decide) (fun qh => ?_) (fun qh => ?_)
    · have h := ht9 qh; clear ht9 hf9
      refine g_iload K dX12_yearGoes_95 0 rfl ?_
      refine g_sub (L' := [(0, .ref m), (1, .int x1), (2, .int x2), (3, .int x3), (4, .int x4), (5, .int y0)]) [2, 3, 4, 5, 6, 1] rfl ?_
      exact wX12_yearGoes_97 K hlt hRm hret hk21 a1 a10 a11 a12 a13 a14 a15 x1 x2 x3 x4 y0 (21 + x4) v_3 h
    · have h := hf9 qh; clear ht9 hf9
      refine g_sipush (v := 9999) K dX12_yearGoes_89 (by decide) ?_
      refine g_goto (tgt := 97) K dX12_yearGoes_92 (by decide) ?_
      refine g_sub (L' := [(0, .ref m), (1, .int x1), (2, .int x2), (3, .int x3), (4, .int x4), (5, .int y0)]) [2, 3, 4, 5, 6, 1] rfl ?_
      exact wX12_yearGoes_97 K hlt hRm hret hk21 a1 a10 a11 a12 a13 a14 a15 x1 x2 x3 x4 y0 (21 + x4) 9999 h

set_option maxHeartbeats 4000000 in
set_option maxRecDepth 100000 in
theorem wX12_yearGoes_21 {Γ : gT} {m : Nat} {r : Nat → Nat} {o : Nat → Int32} {A : Nat → Nat → Int32} (K : gOK Γ cX12_yearGoes gU RX12) (hlt : ∀ i, i < 7 → i < g_n Γ) (hRm : g_R Γ = ({ frames := 9, cells := 0, slots := 0, locals := 265 } : Room)) {res : Int32 × ((Nat → Int32)) × ((Nat → Int32)) × ((Nat → Int32)) × ((Nat → Int32)) × ((Nat → Int32)) × ((Nat → Int32)) × ((Nat → Int32))} (hret : ∀ (pc : Nat) (L : List (Nat × Value)) (v : Int32) (w : va_W), decode cX12_yearGoes pc = .ok (.ireturn, 1) → narrow .int (.int v) = .int v → (v = res.1 ∧ w = mw (g_E Γ) m r o (gu (gu (gu (gu (gu (gu (gu A 1 res.2.1) 10 res.2.2.1) 11 res.2.2.2.1) 12 res.2.2.2.2.1) 13 res.2.2.2.2.2.1) 14 res.2.2.2.2.2.2.1) 15 res.2.2.2.2.2.2.2)) → gGO Γ 0 0 pc L [.int v] w) : ∀ (n : Nat) (a1 : (Nat → Int32)) (a10 : (Nat → Int32)) (a11 : (Nat → Int32)) (a12 : (Nat → Int32)) (a13 : (Nat → Int32)) (a14 : (Nat → Int32)) (a15 : (Nat → Int32)) (x1 : Int32) (x2 : Int32) (x3 : Int32) (x4 : Int32), pX12_yearGoes_21 n a1 a10 a11 a12 a13 a14 a15 x1 x2 x3 x4 = some res → gGO Γ 0 0 21 [(0, .ref m), (1, .int x1), (2, .int x2), (3, .int x3), (4, .int x4)] [] (mw (g_E Γ) m r o (gu (gu (gu (gu (gu (gu (gu A 1 a1) 10 a10) 11 a11) 12 a12) 13 a13) 14 a14) 15 a15)) := by
  intro n
  induction n with
  | zero => intro _ _ _ _ _ _ _ _ _ _ _ h; cases h
  | succ n ih =>
    intro a1 a10 a11 a12 a13 a14 a15 x1 x2 x3 x4 h
    simp only [pX12_yearGoes_21] at h
    refine g_iload K dX12_yearGoes_21 4 rfl ?_
    refine g_iload_n K dX12_yearGoes_23 rfl 2 rfl ?_
    obtain ⟨ht9, hf9⟩ := gi_br h; clear h
    refine g_icmp_ge (tgt := 118) K dX12_yearGoes_24 (by decide) (fun qh => ?_) (fun qh => ?_)
    · have h := ht9 qh; clear ht9 hf9
      refine g_iload_n K dX12_yearGoes_118 rfl 1 rfl ?_
      refine g_iconst (v := 1) K dX12_yearGoes_119 (by decide) ?_
      obtain ⟨ht9, hf9⟩ := gi_br h; clear h
      refine g_icmp_ne (tgt := 127) K dX12_yearGoes_120 (by decide) (fun qh => ?_) (fun qh => ?_)
      · have h := hf9 qh; clear ht9 hf9
        refine g_iload_n K dX12_yearGoes_127 rfl 3 rfl ?_
        refine g_istore_n (L' := [(3, .int x3), (0, .ref m), (1, .int x1), (2, .int x2), (4, .int x4)]) K dX12_yearGoes_128 rfl (hlt _ (by decide)) rfl ?_
        refine g_iconst (v := 0) K dX12_yearGoes_129 (by decide) ?_
        refine g_istore (L' := [(4, .int 0), (3, .int x3), (0, .ref m), (1, .int x1), (2, .int x2)]) K dX12_yearGoes_130 (hlt _ (by decide)) rfl ?_
        refine g_sub (L' := [(0, .ref m), (1, .int x1), (2, .int x2), (3, .int x3), (4, .int 0)]) [2, 3, 4, 1, 0] rfl ?_
        exact wX12_yearGoes_132 K hlt hRm hret 1000 a1 a10 a11 a12 a13 a14 a15 x1 x2 x3 0 h
      · have h := ht9 qh; clear ht9 hf9
        refine g_iconst (v := 0) K dX12_yearGoes_123 (by decide) ?_
        refine g_goto (tgt := 128) K dX12_yearGoes_124 (by decide) ?_
        refine g_istore_n (L' := [(3, .int 0), (0, .ref m), (1, .int x1), (2, .int x2), (4, .int x4)]) K dX12_yearGoes_128 rfl (hlt _ (by decide)) rfl ?_
        refine g_iconst (v := 0) K dX12_yearGoes_129 (by decide) ?_
        refine g_istore (L' := [(4, .int 0), (3, .int 0), (0, .ref m), (1, .int x1), (2, .int x2)]) K dX12_yearGoes_130 (hlt _ (by decide)) rfl ?_
        refine g_sub (L' := [(0, .ref m), (1, .int x1), (2, .int x2), (3, .int 0), (4, .int 0)]) [2, 3, 4, 1, 0] rfl ?_
        exact wX12_yearGoes_132 K hlt hRm hret 1000 a1 a10 a11 a12 a13 a14 a15 x1 x2 0 0 h
    · have h := hf9 qh; clear ht9 hf9
      refine g_iload_n K dX12_yearGoes_27 rfl 1 rfl ?_
      refine g_iconst (v := 3) K dX12_yearGoes_28 (by decide) ?_
      obtain ⟨ht9, hf9⟩ := gi_br h; clear h
      refine g_icmp_ne (tgt := 42) K dX12_yearGoes_29 (by decide) (fun qh => ?_) (fun qh => ?_)
      · have h := hf9 qh; clear ht9 hf9
        refine g_aload_n K dX12_yearGoes_42 rfl 0 rfl ?_
        refine mg_13 K hin_X12 (u_992) dX12_yearGoes_43 ?_
        refine g_iload K dX12_yearGoes_46 4 rfl ?_
        obtain ⟨b_1, h⟩ := gi_none h
        refine g_iald (f := a13) K 7 rfl (ginb_in b_1) dX12_yearGoes_48 ?_
        exact wX12_yearGoes_49 K hlt hRm hret ih a1 a10 a11 a12 a13 a14 a15 x1 x2 x3 x4 (a13 (Int32.toNatClampNeg x4)) h
      · have h := ht9 qh; clear ht9 hf9
        refine g_aload_n K dX12_yearGoes_32 rfl 0 rfl ?_
        refine mg_14 K hin_X12 (u_993) dX12_yearGoes_33 ?_
        refine g_iload K dX12_yearGoes_36 4 rfl ?_
        obtain ⟨b_2, h⟩ := gi_none h
        refine g_iald (f := a14) K 8 rfl (ginb_in b_2) dX12_yearGoes_38 ?_
        refine g_goto (tgt := 49) K dX12_yearGoes_39 (by decide) ?_
        exact wX12_yearGoes_49 K hlt hRm hret ih a1 a10 a11 a12 a13 a14 a15 x1 x2 x3 x4 (a14 (Int32.toNatClampNeg x4)) h

set_option maxHeartbeats 4000000 in
set_option maxRecDepth 100000 in
theorem wX12_yearGoes {Γ : gT} {m : Nat} {r : Nat → Nat} {o : Nat → Int32} {A : Nat → Nat → Int32} (K : gOK Γ cX12_yearGoes gU RX12) (hlt : ∀ i, i < 7 → i < g_n Γ) (hRm : g_R Γ = ({ frames := 9, cells := 0, slots := 0, locals := 265 } : Room)) {res : Int32 × ((Nat → Int32)) × ((Nat → Int32)) × ((Nat → Int32)) × ((Nat → Int32)) × ((Nat → Int32)) × ((Nat → Int32)) × ((Nat → Int32))} (hret : ∀ (pc : Nat) (L : List (Nat × Value)) (v : Int32) (w : va_W), decode cX12_yearGoes pc = .ok (.ireturn, 1) → narrow .int (.int v) = .int v → (v = res.1 ∧ w = mw (g_E Γ) m r o (gu (gu (gu (gu (gu (gu (gu A 1 res.2.1) 10 res.2.2.1) 11 res.2.2.2.1) 12 res.2.2.2.2.1) 13 res.2.2.2.2.2.1) 14 res.2.2.2.2.2.2.1) 15 res.2.2.2.2.2.2.2)) → gGO Γ 0 0 pc L [.int v] w) (a1 : (Nat → Int32)) (a10 : (Nat → Int32)) (a11 : (Nat → Int32)) (a12 : (Nat → Int32)) (a13 : (Nat → Int32)) (a14 : (Nat → Int32)) (a15 : (Nat → Int32)) (x1 : Int32) (h : pX12_yearGoes a1 a10 a11 a12 a13 a14 a15 x1 = some res) : gGO Γ 0 0 0 [(0, .ref m), (1, .int x1)] [] (mw (g_E Γ) m r o (gu (gu (gu (gu (gu (gu (gu A 1 a1) 10 a10) 11 a11) 12 a12) 13 a13) 14 a14) 15 a15)) := by
    unfold pX12_yearGoes at h
    refine g_aload_n K dX12_yearGoes_0 rfl 0 rfl ?_
    obtain ⟨z_1, hz_1, h⟩ := gi_bd h
    refine g_callVv (As := []) (bytes := cX12_duesAll) (maxL := 2) (ret := none) K (ctX12_duesAll o (gu (gu (gu (gu (gu (gu (gu A 1 a1) 10 a10) 11 a11) 12 a12) 13 a13) 14 a14) 15 a15) (res := z_1) hz_1) gc_V_RX12_194_X12_duesAll rfl qv_X12_duesAll 0 rfl rfl rfl hRm rfl rfl rfl (by decide) (Nat.le_of_ble_eq_true rfl) (by decide) dX12_yearGoes_1 (fun w hw => ?_)
    subst hw
    refine g_ws (ws' := mw (g_E Γ) m r o (gu (gu (gu (gu (gu (gu (gu A 1 a1) 10 a10) 11 a11) 12 z_1.1) 13 a13) 14 z_1.2.1) 15 z_1.2.2)) rfl ?_
    refine g_aload_n K dX12_yearGoes_4 rfl 0 rfl ?_
    obtain ⟨z_2, hz_2, h⟩ := gi_bd h
    refine g_callVv (As := []) (bytes := cX12_gradesAll) (maxL := 2) (ret := none) K (ctX12_gradesAll o (gu (gu (gu (gu (gu (gu (gu A 1 a1) 10 a10) 11 a11) 12 z_1.1) 13 a13) 14 z_1.2.1) 15 z_1.2.2) (res := z_2) hz_2) gc_V_RX12_191_X12_gradesAll rfl qv_X12_gradesAll 0 rfl rfl rfl hRm rfl rfl rfl (by decide) (Nat.le_of_ble_eq_true rfl) (by decide) dX12_yearGoes_5 (fun w hw => ?_)
    subst hw
    refine g_ws (ws' := mw (g_E Γ) m r o (gu (gu (gu (gu (gu (gu (gu A 1 a1) 10 z_2.1) 11 z_2.2.1) 12 z_2.2.2.1) 13 z_2.2.2.2.1) 14 z_1.2.1) 15 z_2.2.2.2.2)) rfl ?_
    refine g_aload_n K dX12_yearGoes_8 rfl 0 rfl ?_
    refine mg_1 K hin_X12 (u_980) dX12_yearGoes_9 ?_
    refine g_bipush (v := 51) K dX12_yearGoes_12 (by decide) ?_
    obtain ⟨b_3, h⟩ := gi_none h
    refine g_iald (f := a1) K 1 rfl (ginb_in b_3) dX12_yearGoes_14 ?_
    obtain ⟨v_4, ev_4, h⟩ := gi_nm h
    refine g_topi ev_4 ?_
    refine g_istore_n (L' := [(2, .int v_4), (0, .ref m), (1, .int x1)]) K dX12_yearGoes_15 rfl (hlt _ (by decide)) rfl ?_
    refine g_iconst (v := 0) K dX12_yearGoes_16 (by decide) ?_
    refine g_istore_n (L' := [(3, .int 0), (2, .int v_4), (0, .ref m), (1, .int x1)]) K dX12_yearGoes_17 rfl (hlt _ (by decide)) rfl ?_
    refine g_iconst (v := 0) K dX12_yearGoes_18 (by decide) ?_
    refine g_istore (L' := [(4, .int 0), (3, .int 0), (2, .int v_4), (0, .ref m), (1, .int x1)]) K dX12_yearGoes_19 (hlt _ (by decide)) rfl ?_
    refine g_sub (L' := [(0, .ref m), (1, .int x1), (2, .int v_4), (3, .int 0), (4, .int 0)]) [3, 4, 2, 1, 0] rfl ?_
    exact wX12_yearGoes_21 K hlt hRm hret 1000 a1 z_2.1 z_2.2.1 z_2.2.2.1 z_2.2.2.2.1 z_1.2.1 z_2.2.2.2.2 x1 v_4 0 0 h

set_option maxRecDepth 100000 in
theorem ctX12_yearGoes {E : gE} {m : Nat} {r : Nat → Nat} (o : Nat → Int32) (A : Nat → Nat → Int32) (x1 : Int32) {res : Int32 × ((Nat → Int32)) × ((Nat → Int32)) × ((Nat → Int32)) × ((Nat → Int32)) × ((Nat → Int32)) × ((Nat → Int32)) × ((Nat → Int32))} (h : pX12_yearGoes (A 1) (A 10) (A 11) (A 12) (A 13) (A 14) (A 15) x1 = some res) : gMi yX12_yearGoes (.code yX12_yearGoes cX12_yearGoes 7 (some .int) :: gU) ({ frames := 9, cells := 0, slots := 0, locals := 265 } : Room) 0 0 E [.ref m, .int x1] (mw E m r o A) (fun v w => v = res.1 ∧ w = mw E m r o (gu (gu (gu (gu (gu (gu (gu A 1 res.2.1) 10 res.2.2.1) 11 res.2.2.2.1) 12 res.2.2.2.2.1) 13 res.2.2.2.2.2.1) 14 res.2.2.2.2.2.2.1) 15 res.2.2.2.2.2.2.2)) := by
  refine g_met_i (by decide +kernel) (Nat.le_of_ble_eq_true rfl) (fun Γ K hn hE hRm _ hret => ?_)
  subst hE
  have hlt : ∀ i, i < 7 → i < g_n Γ := fun i q => by rw [hn]; exact q
  refine g_ws (ws' := mw (g_E Γ) m r o (gu (gu (gu (gu (gu (gu (gu A 1 (A 1)) 10 (A 10)) 11 (A 11)) 12 (A 12)) 13 (A 13)) 14 (A 14)) 15 (A 15))) rfl ?_
  refine g_sub (L' := [(0, .ref m), (1, .int x1)]) [0, 1] rfl ?_
  exact wX12_yearGoes K hlt hRm hret (A 1) (A 10) (A 11) (A 12) (A 13) (A 14) (A 15) x1 h

set_option maxHeartbeats 4000000 in
set_option maxRecDepth 100000 in
theorem wX12_year {Γ : gT} {m : Nat} {r : Nat → Nat} {o : Nat → Int32} {A : Nat → Nat → Int32} (K : gOK Γ cX12_year gU RX12) (hlt : ∀ i, i < 1 → i < g_n Γ) (hRm : g_R Γ = ({ frames := 10, cells := 0, slots := 0, locals := 291 } : Room)) {res : Int32 × ((Nat → Int32)) × ((Nat → Int32)) × ((Nat → Int32)) × ((Nat → Int32)) × ((Nat → Int32)) × ((Nat → Int32)) × ((Nat → Int32))} (hret : ∀ (pc : Nat) (L : List (Nat × Value)) (v : Int32) (w : va_W), decode cX12_year pc = .ok (.ireturn, 1) → narrow .int (.int v) = .int v → (v = res.1 ∧ w = mw (g_E Γ) m r o (gu (gu (gu (gu (gu (gu (gu A 1 res.2.1) 10 res.2.2.1) 11 res.2.2.2.1) 12 res.2.2.2.2.1) 13 res.2.2.2.2.2.1) 14 res.2.2.2.2.2.2.1) 15 res.2.2.2.2.2.2.2)) → gGO Γ 0 0 pc L [.int v] w) (a1 : (Nat → Int32)) (a10 : (Nat → Int32)) (a11 : (Nat → Int32)) (a12 : (Nat → Int32)) (a13 : (Nat → Int32)) (a14 : (Nat → Int32)) (a15 : (Nat → Int32)) (h : pX12_year a1 a10 a11 a12 a13 a14 a15 = some res) : gGO Γ 0 0 0 [(0, .ref m)] [] (mw (g_E Γ) m r o (gu (gu (gu (gu (gu (gu (gu A 1 a1) 10 a10) 11 a11) 12 a12) 13 a13) 14 a14) 15 a15)) := by
    unfold pX12_year at h
    refine g_aload_n K dX12_year_0 rfl 0 rfl ?_
    refine mg_1 K hin_X12 (u_980) dX12_year_1 ?_
    refine g_iconst (v := 0) K dX12_year_4 (by decide) ?_
    obtain ⟨b_1, h⟩ := gi_none h
    refine g_iald (f := a1) K 1 rfl (ginb_in b_1) dX12_year_5 ?_
    refine g_bipush (v := 99) K dX12_year_6 (by decide) ?_
    obtain ⟨ht9, hf9⟩ := gi_br h; clear h
    refine g_icmp_ne (tgt := 16) K dX12_year_8 (by decide) (fun qh => ?_) (fun qh => ?_)
    · have h := hf9 qh; clear ht9 hf9
      refine g_aload_n K dX12_year_16 rfl 0 rfl ?_
      refine g_iconst (v := 0) K dX12_year_17 (by decide) ?_
      obtain ⟨z_2, hz_2, h⟩ := gi_bd h
      refine g_callVi (As := [.int 0]) (bytes := cX12_yearGoes) (maxL := 7) (ret := (some .int)) K (ctX12_yearGoes o (gu (gu (gu (gu (gu (gu (gu A 1 a1) 10 a10) 11 a11) 12 a12) 13 a13) 14 a14) 15 a15) 0 (res := z_2) hz_2) gc_V_RX12_209_X12_yearGoes rfl qv_X12_yearGoes 0 rfl rfl rfl hRm rfl rfl rfl (by decide) (Nat.le_of_ble_eq_true rfl) (by decide) dX12_year_18 (fun v w hw => ?_)
      obtain ⟨hv9, rfl⟩ := hw; have hv9 := hv9.symm; subst hv9
      refine g_ws (ws' := mw (g_E Γ) m r o (gu (gu (gu (gu (gu (gu (gu A 1 z_2.2.1) 10 z_2.2.2.1) 11 z_2.2.2.2.1) 12 z_2.2.2.2.2.1) 13 z_2.2.2.2.2.2.1) 14 z_2.2.2.2.2.2.2.1) 15 z_2.2.2.2.2.2.2.2)) rfl ?_
      obtain rfl := Option.some.inj h
      exact hret _ _ _ _ dX12_year_21 rfl ⟨rfl, rfl⟩
    · have h := ht9 qh; clear ht9 hf9
      refine g_bipush (v := (-3)) K dX12_year_11 (by decide) ?_
      refine g_goto (tgt := 21) K dX12_year_13 (by decide) ?_
      obtain rfl := Option.some.inj h
      exact hret _ _ _ _ dX12_year_21 rfl ⟨rfl, rfl⟩

set_option maxRecDepth 100000 in
theorem ctX12_year {E : gE} {m : Nat} {r : Nat → Nat} (o : Nat → Int32) (A : Nat → Nat → Int32) {res : Int32 × ((Nat → Int32)) × ((Nat → Int32)) × ((Nat → Int32)) × ((Nat → Int32)) × ((Nat → Int32)) × ((Nat → Int32)) × ((Nat → Int32))} (h : pX12_year (A 1) (A 10) (A 11) (A 12) (A 13) (A 14) (A 15) = some res) : gMi yX12_year (.code yX12_year cX12_year 1 (some .int) :: gU) ({ frames := 10, cells := 0, slots := 0, locals := 291 } : Room) 0 0 E [.ref m] (mw E m r o A) (fun v w => v = res.1 ∧ w = mw E m r o (gu (gu (gu (gu (gu (gu (gu A 1 res.2.1) 10 res.2.2.1) 11 res.2.2.2.1) 12 res.2.2.2.2.1) 13 res.2.2.2.2.2.1) 14 res.2.2.2.2.2.2.1) 15 res.2.2.2.2.2.2.2)) := by
  refine g_met_i (by decide +kernel) (Nat.le_of_ble_eq_true rfl) (fun Γ K hn hE hRm _ hret => ?_)
  subst hE
  have hlt : ∀ i, i < 1 → i < g_n Γ := fun i q => by rw [hn]; exact q
  refine g_ws (ws' := mw (g_E Γ) m r o (gu (gu (gu (gu (gu (gu (gu A 1 (A 1)) 10 (A 10)) 11 (A 11)) 12 (A 12)) 13 (A 13)) 14 (A 14)) 15 (A 15))) rfl ?_
  refine g_sub (L' := [(0, .ref m)]) [0] rfl ?_
  exact wX12_year K hlt hRm hret (A 1) (A 10) (A 11) (A 12) (A 13) (A 14) (A 15) h

set_option maxHeartbeats 4000000 in
set_option maxRecDepth 100000 in
theorem wX12_keeps_2 {Γ : gT} {m : Nat} {r : Nat → Nat} {o : Nat → Int32} {A : Nat → Nat → Int32} (K : gOK Γ cX12_keeps gU RX12) (hlt : ∀ i, i < 2 → i < g_n Γ) (hRm : g_R Γ = ({ frames := 4, cells := 0, slots := 0, locals := 150 } : Room)) {res : ((Nat → Int32))} (hret : ∀ (pc : Nat) (L : List (Nat × Value)) (w : va_W), decode cX12_keeps pc = .ok (.return_, 1) → (w = mw (g_E Γ) m r o (gu A 3 res)) → gGO Γ 0 0 pc L [] w) : ∀ (n : Nat) (a3 : (Nat → Int32)) (x1 : Int32), pX12_keeps_2 (A 1) n a3 x1 = some res → gGO Γ 0 0 2 [(0, .ref m), (1, .int x1)] [] (mw (g_E Γ) m r o (gu A 3 a3)) := by
  intro n
  induction n with
  | zero => intro _ _ h; cases h
  | succ n ih =>
    intro a3 x1 h
    simp only [pX12_keeps_2] at h
    refine g_iload_n K dX12_keeps_2 rfl 1 rfl ?_
    refine g_bipush (v := 51) K dX12_keeps_3 (by decide) ?_
    obtain ⟨ht9, hf9⟩ := gi_br h; clear h
    refine g_icmp_ge (tgt := 26) K dX12_keeps_5 (by decide) (fun qh => ?_) (fun qh => ?_)
    · have h := ht9 qh; clear ht9 hf9
      obtain rfl := Option.some.inj h
      exact hret _ _ _ dX12_keeps_26 rfl
    · have h := hf9 qh; clear ht9 hf9
      refine g_aload_n K dX12_keeps_8 rfl 0 rfl ?_
      refine mg_3 K hin_X12 (u_982) dX12_keeps_9 ?_
      refine g_iload_n K dX12_keeps_12 rfl 1 rfl ?_
      refine g_aload_n K dX12_keeps_13 rfl 0 rfl ?_
      refine mg_1 K hin_X12 (u_980) dX12_keeps_14 ?_
      refine g_iload_n K dX12_keeps_17 rfl 1 rfl ?_
      obtain ⟨b_1, h⟩ := gi_none h
      refine g_iald (f := (A 1)) K 1 rfl (ginb_in b_1) dX12_keeps_18 ?_
      obtain ⟨b_2, h⟩ := gi_none h
      obtain ⟨f_3, ef_3, h⟩ := gi_nm h
      refine g_iast (f := a3) (ws' := mw (g_E Γ) m r o (gu A 3 f_3)) K 3 rfl (ginb_in b_2) dX12_keeps_19 (by rw [ef_3]; rfl) ?_
      refine g_iinc (v := (x1 + 1)) (L' := [(1, .int (x1 + 1)), (0, .ref m)]) K dX12_keeps_20 1 rfl rfl (hlt _ (by decide)) rfl ?_
      refine g_goto (tgt := 2) K dX12_keeps_23 (by decide) ?_
      refine g_sub (L' := [(0, .ref m), (1, .int (x1 + 1))]) [1, 0] rfl ?_
      exact ih f_3 (x1 + 1) h

set_option maxHeartbeats 4000000 in
set_option maxRecDepth 100000 in
theorem wX12_keeps {Γ : gT} {m : Nat} {r : Nat → Nat} {o : Nat → Int32} {A : Nat → Nat → Int32} (K : gOK Γ cX12_keeps gU RX12) (hlt : ∀ i, i < 2 → i < g_n Γ) (hRm : g_R Γ = ({ frames := 4, cells := 0, slots := 0, locals := 150 } : Room)) {res : ((Nat → Int32))} (hret : ∀ (pc : Nat) (L : List (Nat × Value)) (w : va_W), decode cX12_keeps pc = .ok (.return_, 1) → (w = mw (g_E Γ) m r o (gu A 3 res)) → gGO Γ 0 0 pc L [] w) (a3 : (Nat → Int32)) (h : pX12_keeps (A 1) a3 = some res) : gGO Γ 0 0 0 [(0, .ref m)] [] (mw (g_E Γ) m r o (gu A 3 a3)) := by
    unfold pX12_keeps at h
    refine g_iconst (v := 0) K dX12_keeps_0 (by decide) ?_
    refine g_istore_n (L' := [(1, .int 0), (0, .ref m)]) K dX12_keeps_1 rfl (hlt _ (by decide)) rfl ?_
    refine g_sub (L' := [(0, .ref m), (1, .int 0)]) [1, 0] rfl ?_
    exact wX12_keeps_2 K hlt hRm hret 1000 a3 0 h

set_option maxRecDepth 100000 in
theorem ctX12_keeps {E : gE} {m : Nat} {r : Nat → Nat} (o : Nat → Int32) (A : Nat → Nat → Int32) {res : ((Nat → Int32))} (h : pX12_keeps (A 1) (A 3) = some res) : gMv yX12_keeps (.code yX12_keeps cX12_keeps 2 none :: gU) ({ frames := 4, cells := 0, slots := 0, locals := 150 } : Room) 0 0 E [.ref m] (mw E m r o A) (fun w => w = mw E m r o (gu A 3 res)) := by
  refine g_met_v (by decide +kernel) (Nat.le_of_ble_eq_true rfl) (fun Γ K hn hE hRm _ hret => ?_)
  subst hE
  have hlt : ∀ i, i < 2 → i < g_n Γ := fun i q => by rw [hn]; exact q
  refine g_ws (ws' := mw (g_E Γ) m r o (gu A 3 (A 3))) rfl ?_
  refine g_sub (L' := [(0, .ref m)]) [0] rfl ?_
  exact wX12_keeps K hlt hRm hret (A 3) h

set_option maxHeartbeats 4000000 in
set_option maxRecDepth 100000 in
theorem wX12_goesBack_2 {Γ : gT} {m : Nat} {r : Nat → Nat} {o : Nat → Int32} {A : Nat → Nat → Int32} (K : gOK Γ cX12_goesBack gU RX12) (hlt : ∀ i, i < 2 → i < g_n Γ) (hRm : g_R Γ = ({ frames := 4, cells := 0, slots := 0, locals := 150 } : Room)) {res : ((Nat → Int32))} (hret : ∀ (pc : Nat) (L : List (Nat × Value)) (w : va_W), decode cX12_goesBack pc = .ok (.return_, 1) → (w = mw (g_E Γ) m r o (gu A 1 res)) → gGO Γ 0 0 pc L [] w) : ∀ (n : Nat) (a1 : (Nat → Int32)) (x1 : Int32), pX12_goesBack_2 (A 3) n a1 x1 = some res → gGO Γ 0 0 2 [(0, .ref m), (1, .int x1)] [] (mw (g_E Γ) m r o (gu A 1 a1)) := by
  intro n
  induction n with
  | zero => intro _ _ h; cases h
  | succ n ih =>
    intro a1 x1 h
    simp only [pX12_goesBack_2] at h
    refine g_iload_n K dX12_goesBack_2 rfl 1 rfl ?_
    refine g_bipush (v := 51) K dX12_goesBack_3 (by decide) ?_
    obtain ⟨ht9, hf9⟩ := gi_br h; clear h
    refine g_icmp_ge (tgt := 26) K dX12_goesBack_5 (by decide) (fun qh => ?_) (fun qh => ?_)
    · have h := ht9 qh; clear ht9 hf9
      obtain rfl := Option.some.inj h
      exact hret _ _ _ dX12_goesBack_26 rfl
    · have h := hf9 qh; clear ht9 hf9
      refine g_aload_n K dX12_goesBack_8 rfl 0 rfl ?_
      refine mg_1 K hin_X12 (u_980) dX12_goesBack_9 ?_
      refine g_iload_n K dX12_goesBack_12 rfl 1 rfl ?_
      refine g_aload_n K dX12_goesBack_13 rfl 0 rfl ?_
      refine mg_3 K hin_X12 (u_982) dX12_goesBack_14 ?_
      refine g_iload_n K dX12_goesBack_17 rfl 1 rfl ?_
      obtain ⟨b_1, h⟩ := gi_none h
      refine g_iald (f := (A 3)) K 3 rfl (ginb_in b_1) dX12_goesBack_18 ?_
      obtain ⟨b_2, h⟩ := gi_none h
      obtain ⟨f_3, ef_3, h⟩ := gi_nm h
      refine g_iast (f := a1) (ws' := mw (g_E Γ) m r o (gu A 1 f_3)) K 1 rfl (ginb_in b_2) dX12_goesBack_19 (by rw [ef_3]; rfl) ?_
      refine g_iinc (v := (x1 + 1)) (L' := [(1, .int (x1 + 1)), (0, .ref m)]) K dX12_goesBack_20 1 rfl rfl (hlt _ (by decide)) rfl ?_
      refine g_goto (tgt := 2) K dX12_goesBack_23 (by decide) ?_
      refine g_sub (L' := [(0, .ref m), (1, .int (x1 + 1))]) [1, 0] rfl ?_
      exact ih f_3 (x1 + 1) h

set_option maxHeartbeats 4000000 in
set_option maxRecDepth 100000 in
theorem wX12_goesBack {Γ : gT} {m : Nat} {r : Nat → Nat} {o : Nat → Int32} {A : Nat → Nat → Int32} (K : gOK Γ cX12_goesBack gU RX12) (hlt : ∀ i, i < 2 → i < g_n Γ) (hRm : g_R Γ = ({ frames := 4, cells := 0, slots := 0, locals := 150 } : Room)) {res : ((Nat → Int32))} (hret : ∀ (pc : Nat) (L : List (Nat × Value)) (w : va_W), decode cX12_goesBack pc = .ok (.return_, 1) → (w = mw (g_E Γ) m r o (gu A 1 res)) → gGO Γ 0 0 pc L [] w) (a1 : (Nat → Int32)) (h : pX12_goesBack (A 3) a1 = some res) : gGO Γ 0 0 0 [(0, .ref m)] [] (mw (g_E Γ) m r o (gu A 1 a1)) := by
    unfold pX12_goesBack at h
    refine g_iconst (v := 0) K dX12_goesBack_0 (by decide) ?_
    refine g_istore_n (L' := [(1, .int 0), (0, .ref m)]) K dX12_goesBack_1 rfl (hlt _ (by decide)) rfl ?_
    refine g_sub (L' := [(0, .ref m), (1, .int 0)]) [1, 0] rfl ?_
    exact wX12_goesBack_2 K hlt hRm hret 1000 a1 0 h

set_option maxRecDepth 100000 in
theorem ctX12_goesBack {E : gE} {m : Nat} {r : Nat → Nat} (o : Nat → Int32) (A : Nat → Nat → Int32) {res : ((Nat → Int32))} (h : pX12_goesBack (A 3) (A 1) = some res) : gMv yX12_goesBack (.code yX12_goesBack cX12_goesBack 2 none :: gU) ({ frames := 4, cells := 0, slots := 0, locals := 150 } : Room) 0 0 E [.ref m] (mw E m r o A) (fun w => w = mw E m r o (gu A 1 res)) := by
  refine g_met_v (by decide +kernel) (Nat.le_of_ble_eq_true rfl) (fun Γ K hn hE hRm _ hret => ?_)
  subst hE
  have hlt : ∀ i, i < 2 → i < g_n Γ := fun i q => by rw [hn]; exact q
  refine g_ws (ws' := mw (g_E Γ) m r o (gu A 1 (A 1))) rfl ?_
  refine g_sub (L' := [(0, .ref m)]) [0] rfl ?_
  exact wX12_goesBack K hlt hRm hret (A 1) h

set_option maxHeartbeats 4000000 in
set_option maxRecDepth 100000 in
theorem wX12_years_123 {Γ : gT} {m : Nat} {r : Nat → Nat} {o : Nat → Int32} {A : Nat → Nat → Int32} (K : gOK Γ cX12_years gU RX12) (hlt : ∀ i, i < 7 → i < g_n Γ) (hRm : g_R Γ = ({ frames := 10, cells := 0, slots := 0, locals := 291 } : Room)) {res : Int32 × ((Nat → Int32)) × ((Nat → Int32)) × ((Nat → Int32)) × ((Nat → Int32)) × ((Nat → Int32)) × ((Nat → Int32)) × ((Nat → Int32)) × ((Nat → Int32))} (hret : ∀ (pc : Nat) (L : List (Nat × Value)) (v : Int32) (w : va_W), decode cX12_years pc = .ok (.ireturn, 1) → narrow .int (.int v) = .int v → (v = res.1 ∧ w = mw (g_E Γ) m r o (gu (gu (gu (gu (gu (gu (gu (gu A 1 res.2.1) 3 res.2.2.1) 10 res.2.2.2.1) 11 res.2.2.2.2.1) 12 res.2.2.2.2.2.1) 13 res.2.2.2.2.2.2.1) 14 res.2.2.2.2.2.2.2.1) 15 res.2.2.2.2.2.2.2.2)) → gGO Γ 0 0 pc L [.int v] w) (a1 : (Nat → Int32)) (a3 : (Nat → Int32)) (a10 : (Nat → Int32)) (a11 : (Nat → Int32)) (a12 : (Nat → Int32)) (a13 : (Nat → Int32)) (a14 : (Nat → Int32)) (a15 : (Nat → Int32)) (x3 : Int32) (x4 : Int32) (x5 : Int32) (h : pX12_years_123 a1 a3 a10 a11 a12 a13 a14 a15 x3 x4 x5 = some res) : gGO Γ 0 0 123 [(0, .ref m), (3, .int x3), (4, .int x4), (5, .int x5)] [] (mw (g_E Γ) m r o (gu (gu (gu (gu (gu (gu (gu (gu A 1 a1) 3 a3) 10 a10) 11 a11) 12 a12) 13 a13) 14 a14) 15 a15)) := by
    unfold pX12_years_123 at h
    refine g_iload_n K dX12_years_123 rfl 1 rfl ?_
    obtain ⟨ht9, hf9⟩ := gi_br h; clear h
    refine g_if_ne (tgt := 132) K dX12_years_124 (by decide) (fun qh => ?_) (fun qh => ?_)
    · have h := hf9 qh; clear ht9 hf9
      refine g_iload_n K dX12_years_132 rfl 1 rfl ?_
      refine g_iconst (v := 1) K dX12_years_133 (by decide) ?_
      obtain ⟨ht9, hf9⟩ := gi_br h; clear h
      refine g_icmp_ne (tgt := 142) K dX12_years_134 (by decide) (fun qh => ?_) (fun qh => ?_)
      · have h := hf9 qh; clear ht9 hf9
        refine g_aload_n K dX12_years_142 rfl 0 rfl ?_
        refine mg_1 K hin_X12 (u_980) dX12_years_143 ?_
        refine g_bipush (v := 21) K dX12_years_146 (by decide) ?_
        refine g_iload_n K dX12_years_148 rfl 1 rfl ?_
        refine g_iadd K dX12_years_149 ?_
        refine g_bipush (v := 10) K dX12_years_150 (by decide) ?_
        refine g_isub K dX12_years_152 ?_
        obtain ⟨b_1, h⟩ := gi_none h
        refine g_iald (f := a1) K 1 rfl (ginb_in b_1) dX12_years_153 ?_
        obtain ⟨v_2, ev_2, h⟩ := gi_nm h
        refine g_topi ev_2 ?_
        refine g_istore (L' := [(6, .int v_2), (0, .ref m), (3, .int x3), (4, .int x4), (5, .int x5)]) K dX12_years_154 (hlt _ (by decide)) rfl ?_
        refine g_aload_n K dX12_years_156 rfl 1 rfl ?_
        obtain ⟨z_3, hz_3, h⟩ := gi_bd h
        refine g_callVv (As := []) (bytes := cX12_goesBack) (maxL := 2) (ret := none) K (ctX12_goesBack o (gu (gu (gu (gu (gu (gu (gu (gu A 1 a1) 3 a3) 10 a10) 11 a11) 12 a12) 13 a13) 14 a14) 15 a15) (res := z_3) hz_3) gc_V_RX12_215_X12_goesBack rfl qv_X12_goesBack 0 rfl rfl rfl hRm rfl rfl rfl (by decide) (Nat.le_of_ble_eq_true rfl) (by decide) dX12_years_157 (fun w hw => ?_)
        subst hw
        refine g_ws (ws' := mw (g_E Γ) m r o (gu (gu (gu (gu (gu (gu (gu (gu A 1 z_3) 3 a3) 10 a10) 11 a11) 12 a12) 13 a13) 14 a14) 15 a15)) rfl ?_
        refine g_iload K dX12_years_160 0 rfl ?_
        obtain rfl := Option.some.inj h
        exact hret _ _ _ _ dX12_years_162 rfl ⟨rfl, rfl⟩
      · have h := ht9 qh; clear ht9 hf9
        refine g_iload K dX12_years_137 2 rfl ?_
        refine g_goto (tgt := 154) K dX12_years_139 (by decide) ?_
        refine g_istore (L' := [(6, .int x4), (0, .ref m), (3, .int x3), (4, .int x4), (5, .int x5)]) K dX12_years_154 (hlt _ (by decide)) rfl ?_
        refine g_aload_n K dX12_years_156 rfl 1 rfl ?_
        obtain ⟨z_4, hz_4, h⟩ := gi_bd h
        refine g_callVv (As := []) (bytes := cX12_goesBack) (maxL := 2) (ret := none) K (ctX12_goesBack o (gu (gu (gu (gu (gu (gu (gu (gu A 1 a1) 3 a3) 10 a10) 11 a11) 12 a12) 13 a13) 14 a14) 15 a15) (res := z_4) hz_4) gc_V_RX12_215_X12_goesBack rfl qv_X12_goesBack 0 rfl rfl rfl hRm rfl rfl rfl (by decide) (Nat.le_of_ble_eq_true rfl) (by decide) dX12_years_157 (fun w hw => ?_)
        subst hw
        refine g_ws (ws' := mw (g_E Γ) m r o (gu (gu (gu (gu (gu (gu (gu (gu A 1 z_4) 3 a3) 10 a10) 11 a11) 12 a12) 13 a13) 14 a14) 15 a15)) rfl ?_
        refine g_iload K dX12_years_160 0 rfl ?_
        obtain rfl := Option.some.inj h
        exact hret _ _ _ _ dX12_years_162 rfl ⟨rfl, rfl⟩
    · have h := ht9 qh; clear ht9 hf9
      refine g_iload K dX12_years_127 3 rfl ?_
      refine g_goto (tgt := 154) K dX12_years_129 (by decide) ?_
      refine g_istore (L' := [(6, .int x5), (0, .ref m), (3, .int x3), (4, .int x4), (5, .int x5)]) K dX12_years_154 (hlt _ (by decide)) rfl ?_
      refine g_aload_n K dX12_years_156 rfl 1 rfl ?_
      obtain ⟨z_5, hz_5, h⟩ := gi_bd h
      refine g_callVv (As := []) (bytes := cX12_goesBack) (maxL := 2) (ret := none) K (ctX12_goesBack o (gu (gu (gu (gu (gu (gu (gu (gu A 1 a1) 3 a3) 10 a10) 11 a11) 12 a12) 13 a13) 14 a14) 15 a15) (res := z_5) hz_5) gc_V_RX12_215_X12_goesBack rfl qv_X12_goesBack 0 rfl rfl rfl hRm rfl rfl rfl (by decide) (Nat.le_of_ble_eq_true rfl) (by decide) dX12_years_157 (fun w hw => ?_)
      subst hw
      refine g_ws (ws' := mw (g_E Γ) m r o (gu (gu (gu (gu (gu (gu (gu (gu A 1 z_5) 3 a3) 10 a10) 11 a11) 12 a12) 13 a13) 14 a14) 15 a15)) rfl ?_
      refine g_iload K dX12_years_160 0 rfl ?_
      obtain rfl := Option.some.inj h
      exact hret _ _ _ _ dX12_years_162 rfl ⟨rfl, rfl⟩

set_option maxHeartbeats 4000000 in
set_option maxRecDepth 100000 in
theorem wX12_years_91 {Γ : gT} {m : Nat} {r : Nat → Nat} {o : Nat → Int32} {A : Nat → Nat → Int32} (K : gOK Γ cX12_years gU RX12) (hlt : ∀ i, i < 7 → i < g_n Γ) (hRm : g_R Γ = ({ frames := 10, cells := 0, slots := 0, locals := 291 } : Room)) {res : Int32 × ((Nat → Int32)) × ((Nat → Int32)) × ((Nat → Int32)) × ((Nat → Int32)) × ((Nat → Int32)) × ((Nat → Int32)) × ((Nat → Int32)) × ((Nat → Int32))} (hret : ∀ (pc : Nat) (L : List (Nat × Value)) (v : Int32) (w : va_W), decode cX12_years pc = .ok (.ireturn, 1) → narrow .int (.int v) = .int v → (v = res.1 ∧ w = mw (g_E Γ) m r o (gu (gu (gu (gu (gu (gu (gu (gu A 1 res.2.1) 3 res.2.2.1) 10 res.2.2.2.1) 11 res.2.2.2.2.1) 12 res.2.2.2.2.2.1) 13 res.2.2.2.2.2.2.1) 14 res.2.2.2.2.2.2.2.1) 15 res.2.2.2.2.2.2.2.2)) → gGO Γ 0 0 pc L [.int v] w) : ∀ (n : Nat) (a1 : (Nat → Int32)) (a3 : (Nat → Int32)) (a10 : (Nat → Int32)) (a11 : (Nat → Int32)) (a12 : (Nat → Int32)) (a13 : (Nat → Int32)) (a14 : (Nat → Int32)) (a15 : (Nat → Int32)) (x3 : Int32) (x4 : Int32) (x5 : Int32) (x6 : Int32), pX12_years_91 n a1 a3 a10 a11 a12 a13 a14 a15 x3 x4 x5 x6 = some res → gGO Γ 0 0 91 [(0, .ref m), (3, .int x3), (4, .int x4), (5, .int x5), (6, .int x6)] [] (mw (g_E Γ) m r o (gu (gu (gu (gu (gu (gu (gu (gu A 1 a1) 3 a3) 10 a10) 11 a11) 12 a12) 13 a13) 14 a14) 15 a15)) := by
  intro n
  induction n with
  | zero => intro _ _ _ _ _ _ _ _ _ _ _ _ h; cases h
  | succ n ih =>
    intro a1 a3 a10 a11 a12 a13 a14 a15 x3 x4 x5 x6 h
    simp only [pX12_years_91] at h
    refine g_iload K dX12_years_91 4 rfl ?_
    refine g_aload_n K dX12_years_93 rfl 0 rfl ?_
    refine mg_1 K hin_X12 (u_980) dX12_years_94 ?_
    refine g_bipush (v := 51) K dX12_years_97 (by decide) ?_
    obtain ⟨b_1, h⟩ := gi_none h
    refine g_iald (f := a1) K 1 rfl (ginb_in b_1) dX12_years_99 ?_
    obtain ⟨ht9, hf9⟩ := gi_br h; clear h
    refine g_icmp_ge (tgt := 123) K dX12_years_100 (by decide) (fun qh => ?_) (fun qh => ?_)
    · have h := ht9 qh; clear ht9 hf9
      refine g_sub (L' := [(0, .ref m), (3, .int x3), (4, .int x4), (5, .int x5)]) [0, 1, 2, 3] rfl ?_
      exact wX12_years_123 K hlt hRm hret a1 a3 a10 a11 a12 a13 a14 a15 x3 x4 x5 h
    · have h := hf9 qh; clear ht9 hf9
      refine g_iload K dX12_years_103 3 rfl ?_
      refine g_aload_n K dX12_years_105 rfl 0 rfl ?_
      refine mg_1 K hin_X12 (u_980) dX12_years_106 ?_
      refine g_iconst (v := 1) K dX12_years_109 (by decide) ?_
      refine g_iload K dX12_years_110 4 rfl ?_
      refine g_iadd K dX12_years_112 ?_
      obtain ⟨b_2, h⟩ := gi_none h
      refine g_iald (f := a1) K 1 rfl (ginb_in b_2) dX12_years_113 ?_
      refine g_iadd K dX12_years_114 ?_
      obtain ⟨v_3, ev_3, h⟩ := gi_nm h
      refine g_topi ev_3 ?_
      refine g_istore (L' := [(5, .int v_3), (0, .ref m), (3, .int x3), (4, .int x4), (6, .int x6)]) K dX12_years_115 (hlt _ (by decide)) rfl ?_
      refine g_iinc (v := (x6 + 1)) (L' := [(6, .int (x6 + 1)), (5, .int v_3), (0, .ref m), (3, .int x3), (4, .int x4)]) K dX12_years_117 4 rfl rfl (hlt _ (by decide)) rfl ?_
      refine g_goto (tgt := 91) K dX12_years_120 (by decide) ?_
      refine g_sub (L' := [(0, .ref m), (3, .int x3), (4, .int x4), (5, .int v_3), (6, .int (x6 + 1))]) [2, 3, 4, 1, 0] rfl ?_
      exact ih a1 a3 a10 a11 a12 a13 a14 a15 x3 x4 v_3 (x6 + 1) h

set_option maxHeartbeats 4000000 in
set_option maxRecDepth 100000 in
theorem wX12_years_63 {Γ : gT} {m : Nat} {r : Nat → Nat} {o : Nat → Int32} {A : Nat → Nat → Int32} (K : gOK Γ cX12_years gU RX12) (hlt : ∀ i, i < 7 → i < g_n Γ) (hRm : g_R Γ = ({ frames := 10, cells := 0, slots := 0, locals := 291 } : Room)) {res : Int32 × ((Nat → Int32)) × ((Nat → Int32)) × ((Nat → Int32)) × ((Nat → Int32)) × ((Nat → Int32)) × ((Nat → Int32)) × ((Nat → Int32)) × ((Nat → Int32))} (hret : ∀ (pc : Nat) (L : List (Nat × Value)) (v : Int32) (w : va_W), decode cX12_years pc = .ok (.ireturn, 1) → narrow .int (.int v) = .int v → (v = res.1 ∧ w = mw (g_E Γ) m r o (gu (gu (gu (gu (gu (gu (gu (gu A 1 res.2.1) 3 res.2.2.1) 10 res.2.2.2.1) 11 res.2.2.2.2.1) 12 res.2.2.2.2.2.1) 13 res.2.2.2.2.2.2.1) 14 res.2.2.2.2.2.2.2.1) 15 res.2.2.2.2.2.2.2.2)) → gGO Γ 0 0 pc L [.int v] w) : ∀ (n : Nat) (a1 : (Nat → Int32)) (a3 : (Nat → Int32)) (a10 : (Nat → Int32)) (a11 : (Nat → Int32)) (a12 : (Nat → Int32)) (a13 : (Nat → Int32)) (a14 : (Nat → Int32)) (a15 : (Nat → Int32)) (x1 : Int32) (x2 : Int32) (x3 : Int32) (x4 : Int32) (x5 : Int32), pX12_years_63 n a1 a3 a10 a11 a12 a13 a14 a15 x1 x2 x3 x4 x5 = some res → gGO Γ 0 0 63 [(0, .ref m), (1, .int x1), (2, .int x2), (3, .int x3), (4, .int x4), (5, .int x5)] [] (mw (g_E Γ) m r o (gu (gu (gu (gu (gu (gu (gu (gu A 1 a1) 3 a3) 10 a10) 11 a11) 12 a12) 13 a13) 14 a14) 15 a15)) := by
  intro n
  induction n with
  | zero => intro _ _ _ _ _ _ _ _ _ _ _ _ _ h; cases h
  | succ n ih =>
    intro a1 a3 a10 a11 a12 a13 a14 a15 x1 x2 x3 x4 x5 h
    simp only [pX12_years_63] at h
    refine g_iload K dX12_years_63 5 rfl ?_
    refine g_iload_n K dX12_years_65 rfl 1 rfl ?_
    obtain ⟨ht9, hf9⟩ := gi_br h; clear h
    refine g_icmp_ge (tgt := 85) K dX12_years_66 (by decide) (fun qh => ?_) (fun qh => ?_)
    · have h := ht9 qh; clear ht9 hf9
      refine g_iconst (v := 0) K dX12_years_85 (by decide) ?_
      refine g_istore (L' := [(5, .int 0), (0, .ref m), (1, .int x1), (2, .int x2), (3, .int x3), (4, .int x4)]) K dX12_years_86 (hlt _ (by decide)) rfl ?_
      refine g_iconst (v := 0) K dX12_years_88 (by decide) ?_
      refine g_istore (L' := [(6, .int 0), (5, .int 0), (0, .ref m), (1, .int x1), (2, .int x2), (3, .int x3), (4, .int x4)]) K dX12_years_89 (hlt _ (by decide)) rfl ?_
      refine g_sub (L' := [(0, .ref m), (3, .int x3), (4, .int x4), (5, .int 0), (6, .int 0)]) [2, 5, 6, 1, 0] rfl ?_
      exact wX12_years_91 K hlt hRm hret 1000 a1 a3 a10 a11 a12 a13 a14 a15 x3 x4 0 0 h
    · have h := hf9 qh; clear ht9 hf9
      refine g_iload K dX12_years_69 4 rfl ?_
      refine g_aload_n K dX12_years_71 rfl 0 rfl ?_
      refine g_iload_n K dX12_years_72 rfl 2 rfl ?_
      obtain ⟨z_1, hz_1, h⟩ := gi_bd h
      refine g_callVi (As := [.int x2]) (bytes := cX12_yearGoes) (maxL := 7) (ret := (some .int)) K (ctX12_yearGoes o (gu (gu (gu (gu (gu (gu (gu (gu A 1 a1) 3 a3) 10 a10) 11 a11) 12 a12) 13 a13) 14 a14) 15 a15) x2 (res := z_1) hz_1) gc_V_RX12_209_X12_yearGoes rfl qv_X12_yearGoes 0 rfl rfl rfl hRm rfl rfl rfl (by decide) (Nat.le_of_ble_eq_true rfl) (by decide) dX12_years_73 (fun v w hw => ?_)
      obtain ⟨hv9, rfl⟩ := hw; have hv9 := hv9.symm; subst hv9
      refine g_ws (ws' := mw (g_E Γ) m r o (gu (gu (gu (gu (gu (gu (gu (gu A 1 z_1.2.1) 3 a3) 10 z_1.2.2.1) 11 z_1.2.2.2.1) 12 z_1.2.2.2.2.1) 13 z_1.2.2.2.2.2.1) 14 z_1.2.2.2.2.2.2.1) 15 z_1.2.2.2.2.2.2.2)) rfl ?_
      refine g_iadd K dX12_years_76 ?_
      obtain ⟨v_2, ev_2, h⟩ := gi_nm h
      refine g_topi ev_2 ?_
      refine g_istore (L' := [(4, .int v_2), (0, .ref m), (1, .int x1), (2, .int x2), (3, .int x3), (5, .int x5)]) K dX12_years_77 (hlt _ (by decide)) rfl ?_
      refine g_iinc (v := (x5 + 1)) (L' := [(5, .int (x5 + 1)), (4, .int v_2), (0, .ref m), (1, .int x1), (2, .int x2), (3, .int x3)]) K dX12_years_79 5 rfl rfl (hlt _ (by decide)) rfl ?_
      refine g_goto (tgt := 63) K dX12_years_82 (by decide) ?_
      refine g_sub (L' := [(0, .ref m), (1, .int x1), (2, .int x2), (3, .int x3), (4, .int v_2), (5, .int (x5 + 1))]) [2, 3, 4, 5, 1, 0] rfl ?_
      exact ih z_1.2.1 a3 z_1.2.2.1 z_1.2.2.2.1 z_1.2.2.2.2.1 z_1.2.2.2.2.2.1 z_1.2.2.2.2.2.2.1 z_1.2.2.2.2.2.2.2 x1 x2 x3 v_2 (x5 + 1) h

set_option maxHeartbeats 4000000 in
set_option maxRecDepth 100000 in
theorem wX12_years_39 {Γ : gT} {m : Nat} {r : Nat → Nat} {o : Nat → Int32} {A : Nat → Nat → Int32} (K : gOK Γ cX12_years gU RX12) (hlt : ∀ i, i < 7 → i < g_n Γ) (hRm : g_R Γ = ({ frames := 10, cells := 0, slots := 0, locals := 291 } : Room)) {res : Int32 × ((Nat → Int32)) × ((Nat → Int32)) × ((Nat → Int32)) × ((Nat → Int32)) × ((Nat → Int32)) × ((Nat → Int32)) × ((Nat → Int32)) × ((Nat → Int32))} (hret : ∀ (pc : Nat) (L : List (Nat × Value)) (v : Int32) (w : va_W), decode cX12_years pc = .ok (.ireturn, 1) → narrow .int (.int v) = .int v → (v = res.1 ∧ w = mw (g_E Γ) m r o (gu (gu (gu (gu (gu (gu (gu (gu A 1 res.2.1) 3 res.2.2.1) 10 res.2.2.2.1) 11 res.2.2.2.2.1) 12 res.2.2.2.2.2.1) 13 res.2.2.2.2.2.2.1) 14 res.2.2.2.2.2.2.2.1) 15 res.2.2.2.2.2.2.2.2)) → gGO Γ 0 0 pc L [.int v] w) (a1 : (Nat → Int32)) (a3 : (Nat → Int32)) (a10 : (Nat → Int32)) (a11 : (Nat → Int32)) (a12 : (Nat → Int32)) (a13 : (Nat → Int32)) (a14 : (Nat → Int32)) (a15 : (Nat → Int32)) (x1 : Int32) (x2 : Int32) (x3 : Int32) (h : pX12_years_39 a1 a3 a10 a11 a12 a13 a14 a15 x1 x2 x3 = some res) : gGO Γ 0 0 39 [(0, .ref m), (1, .int x1), (2, .int x2), (3, .int x3)] [] (mw (g_E Γ) m r o (gu (gu (gu (gu (gu (gu (gu (gu A 1 a1) 3 a3) 10 a10) 11 a11) 12 a12) 13 a13) 14 a14) 15 a15)) := by
    unfold pX12_years_39 at h
    refine g_iload_n K dX12_years_39 rfl 1 rfl ?_
    refine g_iconst (v := 0) K dX12_years_40 (by decide) ?_
    refine g_bipush (v := 20) K dX12_years_41 (by decide) ?_
    obtain ⟨z_1, hz_1, h⟩ := gi_bd h
    refine g_callSi (As := [.int x1, .int 0, .int 20]) (bytes := cX12_in) (maxL := 3) (ret := (some .boolean)) K (ctX12_in (ws := mw (g_E Γ) m r o (gu (gu (gu (gu (gu (gu (gu (gu A 1 a1) 3 a3) 10 a10) 11 a11) 12 a12) 13 a13) 14 a14) 15 a15)) x1 0 20 (res := z_1) hz_1) gc_S_RX12_50_X12_in rfl qs_X12_in hRm rfl rfl rfl (by decide) (Nat.le_of_ble_eq_true rfl) (by decide) dX12_years_43 (fun v w hw => ?_)
    obtain ⟨hv9, rfl⟩ := hw; have hv9 := hv9.symm; subst hv9
    obtain ⟨ht9, hf9⟩ := gi_br h; clear h
    refine g_if_ne (tgt := 53) K dX12_years_46 (by decide) (fun qh => ?_) (fun qh => ?_)
    · have h := hf9 qh; clear ht9 hf9
      refine g_aload_n K dX12_years_53 rfl 0 rfl ?_
      obtain ⟨z_2, hz_2, h⟩ := gi_bd h
      refine g_callVv (As := []) (bytes := cX12_keeps) (maxL := 2) (ret := none) K (ctX12_keeps o (gu (gu (gu (gu (gu (gu (gu (gu A 1 a1) 3 a3) 10 a10) 11 a11) 12 a12) 13 a13) 14 a14) 15 a15) (res := z_2) hz_2) gc_V_RX12_212_X12_keeps rfl qv_X12_keeps 0 rfl rfl rfl hRm rfl rfl rfl (by decide) (Nat.le_of_ble_eq_true rfl) (by decide) dX12_years_54 (fun w hw => ?_)
      subst hw
      refine g_ws (ws' := mw (g_E Γ) m r o (gu (gu (gu (gu (gu (gu (gu (gu A 1 a1) 3 z_2) 10 a10) 11 a11) 12 a12) 13 a13) 14 a14) 15 a15)) rfl ?_
      refine g_iconst (v := 0) K dX12_years_57 (by decide) ?_
      refine g_istore (L' := [(4, .int 0), (0, .ref m), (1, .int x1), (2, .int x2), (3, .int x3)]) K dX12_years_58 (hlt _ (by decide)) rfl ?_
      refine g_iconst (v := 0) K dX12_years_60 (by decide) ?_
      refine g_istore (L' := [(5, .int 0), (4, .int 0), (0, .ref m), (1, .int x1), (2, .int x2), (3, .int x3)]) K dX12_years_61 (hlt _ (by decide)) rfl ?_
      refine g_sub (L' := [(0, .ref m), (1, .int x1), (2, .int x2), (3, .int x3), (4, .int 0), (5, .int 0)]) [2, 3, 4, 5, 1, 0] rfl ?_
      exact wX12_years_63 K hlt hRm hret 1000 a1 z_2 a10 a11 a12 a13 a14 a15 x1 x2 x3 0 0 h
    · have h := ht9 qh; clear ht9 hf9
      refine g_sipush (v := (-1002)) K dX12_years_49 (by decide) ?_
      obtain rfl := Option.some.inj h
      exact hret _ _ _ _ dX12_years_52 rfl ⟨rfl, rfl⟩

set_option maxHeartbeats 4000000 in
set_option maxRecDepth 100000 in
theorem wX12_years {Γ : gT} {m : Nat} {r : Nat → Nat} {o : Nat → Int32} {A : Nat → Nat → Int32} (K : gOK Γ cX12_years gU RX12) (hlt : ∀ i, i < 7 → i < g_n Γ) (hRm : g_R Γ = ({ frames := 10, cells := 0, slots := 0, locals := 291 } : Room)) {res : Int32 × ((Nat → Int32)) × ((Nat → Int32)) × ((Nat → Int32)) × ((Nat → Int32)) × ((Nat → Int32)) × ((Nat → Int32)) × ((Nat → Int32)) × ((Nat → Int32))} (hret : ∀ (pc : Nat) (L : List (Nat × Value)) (v : Int32) (w : va_W), decode cX12_years pc = .ok (.ireturn, 1) → narrow .int (.int v) = .int v → (v = res.1 ∧ w = mw (g_E Γ) m r o (gu (gu (gu (gu (gu (gu (gu (gu A 1 res.2.1) 3 res.2.2.1) 10 res.2.2.2.1) 11 res.2.2.2.2.1) 12 res.2.2.2.2.2.1) 13 res.2.2.2.2.2.2.1) 14 res.2.2.2.2.2.2.2.1) 15 res.2.2.2.2.2.2.2.2)) → gGO Γ 0 0 pc L [.int v] w) (a1 : (Nat → Int32)) (a3 : (Nat → Int32)) (a10 : (Nat → Int32)) (a11 : (Nat → Int32)) (a12 : (Nat → Int32)) (a13 : (Nat → Int32)) (a14 : (Nat → Int32)) (a15 : (Nat → Int32)) (x1 : Int32) (x2 : Int32) (x3 : Int32) (h : pX12_years a1 a3 a10 a11 a12 a13 a14 a15 x1 x2 x3 = some res) : gGO Γ 0 0 0 [(0, .ref m), (1, .int x1), (2, .int x2), (3, .int x3)] [] (mw (g_E Γ) m r o (gu (gu (gu (gu (gu (gu (gu (gu A 1 a1) 3 a3) 10 a10) 11 a11) 12 a12) 13 a13) 14 a14) 15 a15)) := by
    unfold pX12_years at h
    refine g_iload_n K dX12_years_0 rfl 2 rfl ?_
    refine g_iconst (v := 0) K dX12_years_1 (by decide) ?_
    refine g_iconst (v := 3) K dX12_years_2 (by decide) ?_
    obtain ⟨z_1, hz_1, h⟩ := gi_bd h
    refine g_callSi (As := [.int x2, .int 0, .int 3]) (bytes := cX12_in) (maxL := 3) (ret := (some .boolean)) K (ctX12_in (ws := mw (g_E Γ) m r o (gu (gu (gu (gu (gu (gu (gu (gu A 1 a1) 3 a3) 10 a10) 11 a11) 12 a12) 13 a13) 14 a14) 15 a15)) x2 0 3 (res := z_1) hz_1) gc_S_RX12_50_X12_in rfl qs_X12_in hRm rfl rfl rfl (by decide) (Nat.le_of_ble_eq_true rfl) (by decide) dX12_years_3 (fun v w hw => ?_)
    obtain ⟨hv9, rfl⟩ := hw; have hv9 := hv9.symm; subst hv9
    obtain ⟨ht9, hf9⟩ := gi_br h; clear h
    refine g_if_eq (tgt := 35) K dX12_years_6 (by decide) (fun qh => ?_) (fun qh => ?_)
    · have h := ht9 qh; clear ht9 hf9
      refine g_sipush (v := (-1001)) K dX12_years_35 (by decide) ?_
      obtain rfl := Option.some.inj h
      exact hret _ _ _ _ dX12_years_38 rfl ⟨rfl, rfl⟩
    · have h := hf9 qh; clear ht9 hf9
      refine g_iload_n K dX12_years_9 rfl 3 rfl ?_
      refine g_iconst (v := 0) K dX12_years_10 (by decide) ?_
      refine g_iconst (v := 1) K dX12_years_11 (by decide) ?_
      obtain ⟨z_2, hz_2, h⟩ := gi_bd h
      refine g_callSi (As := [.int x3, .int 0, .int 1]) (bytes := cX12_in) (maxL := 3) (ret := (some .boolean)) K (ctX12_in (ws := mw (g_E Γ) m r o (gu (gu (gu (gu (gu (gu (gu (gu A 1 a1) 3 a3) 10 a10) 11 a11) 12 a12) 13 a13) 14 a14) 15 a15)) x3 0 1 (res := z_2) hz_2) gc_S_RX12_50_X12_in rfl qs_X12_in hRm rfl rfl rfl (by decide) (Nat.le_of_ble_eq_true rfl) (by decide) dX12_years_12 (fun v w hw => ?_)
      obtain ⟨hv9, rfl⟩ := hw; have hv9 := hv9.symm; subst hv9
      obtain ⟨ht9, hf9⟩ := gi_br h; clear h
      refine g_if_ne (tgt := 39) K dX12_years_15 (by decide) (fun qh => ?_) (fun qh => ?_)
      · have h := hf9 qh; clear ht9 hf9
        exact wX12_years_39 K hlt hRm hret a1 a3 a10 a11 a12 a13 a14 a15 x1 x2 x3 h
      · have h := ht9 qh; clear ht9 hf9
        refine g_iload_n K dX12_years_18 rfl 3 rfl ?_
        refine g_bipush (v := 10) K dX12_years_19 (by decide) ?_
        obtain ⟨ht9, hf9⟩ := gi_br h; clear h
        refine g_icmp_lt (tgt := 35) K dX12_years_21 (by decide) (fun qh => ?_) (fun qh => ?_)
        · have h := ht9 qh; clear ht9 hf9
          refine g_sipush (v := (-1001)) K dX12_years_35 (by decide) ?_
          obtain rfl := Option.some.inj h
          exact hret _ _ _ _ dX12_years_38 rfl ⟨rfl, rfl⟩
        · have h := hf9 qh; clear ht9 hf9
          refine g_aload_n K dX12_years_24 rfl 0 rfl ?_
          refine g_iload_n K dX12_years_25 rfl 3 rfl ?_
          refine g_bipush (v := 10) K dX12_years_26 (by decide) ?_
          refine g_isub K dX12_years_28 ?_
          obtain ⟨z_3, hz_3, h⟩ := gi_bd h
          refine g_callVi (As := [.int (x3 - 10)]) (bytes := cX12_isWorker) (maxL := 2) (ret := (some .boolean)) K (ctX12_isWorker o (gu (gu (gu (gu (gu (gu (gu (gu A 1 a1) 3 a3) 10 a10) 11 a11) 12 a12) 13 a13) 14 a14) 15 a15) (x3 - 10) (res := z_3) hz_3) gc_V_RX12_146_X12_isWorker rfl qv_X12_isWorker 0 rfl rfl rfl hRm rfl rfl rfl (by decide) (Nat.le_of_ble_eq_true rfl) (by decide) dX12_years_29 (fun v w hw => ?_)
          obtain ⟨hv9, rfl⟩ := hw; have hv9 := hv9.symm; subst hv9
          obtain ⟨ht9, hf9⟩ := gi_br h; clear h
          refine g_if_ne (tgt := 39) K dX12_years_32 (by decide) (fun qh => ?_) (fun qh => ?_)
          · have h := hf9 qh; clear ht9 hf9
            exact wX12_years_39 K hlt hRm hret a1 a3 a10 a11 a12 a13 a14 a15 x1 x2 x3 h
          · have h := ht9 qh; clear ht9 hf9
            refine g_sipush (v := (-1001)) K dX12_years_35 (by decide) ?_
            obtain rfl := Option.some.inj h
            exact hret _ _ _ _ dX12_years_38 rfl ⟨rfl, rfl⟩

set_option maxRecDepth 100000 in
theorem ctX12_years {E : gE} {m : Nat} {r : Nat → Nat} (o : Nat → Int32) (A : Nat → Nat → Int32) (x1 : Int32) (x2 : Int32) (x3 : Int32) {res : Int32 × ((Nat → Int32)) × ((Nat → Int32)) × ((Nat → Int32)) × ((Nat → Int32)) × ((Nat → Int32)) × ((Nat → Int32)) × ((Nat → Int32)) × ((Nat → Int32))} (h : pX12_years (A 1) (A 3) (A 10) (A 11) (A 12) (A 13) (A 14) (A 15) x1 x2 x3 = some res) : gMi yX12_years (.code yX12_years cX12_years 7 (some .int) :: gU) ({ frames := 10, cells := 0, slots := 0, locals := 291 } : Room) 0 0 E [.ref m, .int x1, .int x2, .int x3] (mw E m r o A) (fun v w => v = res.1 ∧ w = mw E m r o (gu (gu (gu (gu (gu (gu (gu (gu A 1 res.2.1) 3 res.2.2.1) 10 res.2.2.2.1) 11 res.2.2.2.2.1) 12 res.2.2.2.2.2.1) 13 res.2.2.2.2.2.2.1) 14 res.2.2.2.2.2.2.2.1) 15 res.2.2.2.2.2.2.2.2)) := by
  refine g_met_i (by decide +kernel) (Nat.le_of_ble_eq_true rfl) (fun Γ K hn hE hRm _ hret => ?_)
  subst hE
  have hlt : ∀ i, i < 7 → i < g_n Γ := fun i q => by rw [hn]; exact q
  refine g_ws (ws' := mw (g_E Γ) m r o (gu (gu (gu (gu (gu (gu (gu (gu A 1 (A 1)) 3 (A 3)) 10 (A 10)) 11 (A 11)) 12 (A 12)) 13 (A 13)) 14 (A 14)) 15 (A 15))) rfl ?_
  refine g_sub (L' := [(0, .ref m), (1, .int x1), (2, .int x2), (3, .int x3)]) [0, 1, 2, 3] rfl ?_
  exact wX12_years K hlt hRm hret (A 1) (A 3) (A 10) (A 11) (A 12) (A 13) (A 14) (A 15) x1 x2 x3 h

set_option maxHeartbeats 4000000 in
set_option maxRecDepth 100000 in
theorem wX12_chooses_16 {Γ : gT} {ws : va_W} (K : gOK Γ cX12_chooses gU RX12) (hlt : ∀ i, i < 5 → i < g_n Γ) (hRm : g_R Γ = ({ frames := 4, cells := 0, slots := 0, locals := 150 } : Room)) {res : Int64} (hret : ∀ (pc : Nat) (L : List (Nat × Value)) (v : Int64) (w : va_W), decode cX12_chooses pc = .ok (.lreturn, 1) → (v = res ∧ w = ws) → gGO Γ 0 0 pc L [.long v] w) : ∀ (n : Nat) (x0 : Int32) (x1 : Int32) (x2 : Int64) (x4 : Int32), pX12_chooses_16 n x0 x1 x2 x4 = some res → gGO Γ 0 0 16 [(0, .int x0), (1, .int x1), (2, .long x2), (4, .int x4)] [] (ws) := by
  intro n
  induction n with
  | zero => intro _ _ _ _ h; cases h
  | succ n ih =>
    intro x0 x1 x2 x4 h
    simp only [pX12_chooses_16] at h
    refine g_iload K dX12_chooses_16 3 rfl ?_
    refine g_iload_n K dX12_chooses_18 rfl 1 rfl ?_
    obtain ⟨ht9, hf9⟩ := gi_br h; clear h
    refine g_icmp_gt (tgt := 42) K dX12_chooses_19 (by decide) (fun qh => ?_) (fun qh => ?_)
    · have h := ht9 qh; clear ht9 hf9
      refine g_lload_n K dX12_chooses_42 rfl 2 rfl ?_
      obtain rfl := Option.some.inj h
      exact hret _ _ _ _ dX12_chooses_43 ⟨rfl, rfl⟩
    · have h := hf9 qh; clear ht9 hf9
      refine g_lload_n K dX12_chooses_22 rfl 2 rfl ?_
      refine g_iload_n K dX12_chooses_23 rfl 0 rfl ?_
      refine g_iload_n K dX12_chooses_24 rfl 1 rfl ?_
      refine g_isub K dX12_chooses_25 ?_
      refine g_iload K dX12_chooses_26 3 rfl ?_
      refine g_iadd K dX12_chooses_28 ?_
      refine g_i2l K dX12_chooses_29 ?_
      refine g_lmul K dX12_chooses_30 ?_
      refine g_iload K dX12_chooses_31 3 rfl ?_
      refine g_i2l K dX12_chooses_33 ?_
      obtain ⟨c_1, h⟩ := gi_none h
      refine g_ldiv K dX12_chooses_34 c_1 ?_
      obtain ⟨v_2, ev_2, h⟩ := gi_nm h
      refine g_topl ev_2 ?_
      refine g_lstore_n (L' := [(2, .long v_2), (0, .int x0), (1, .int x1), (4, .int x4)]) K dX12_chooses_35 rfl (hlt _ (by decide)) rfl ?_
      refine g_iinc (v := (x4 + 1)) (L' := [(4, .int (x4 + 1)), (2, .long v_2), (0, .int x0), (1, .int x1)]) K dX12_chooses_36 3 rfl rfl (hlt _ (by decide)) rfl ?_
      refine g_goto (tgt := 16) K dX12_chooses_39 (by decide) ?_
      refine g_sub (L' := [(0, .int x0), (1, .int x1), (2, .long v_2), (4, .int (x4 + 1))]) [2, 3, 1, 0] rfl ?_
      exact ih x0 x1 v_2 (x4 + 1) h

set_option maxHeartbeats 4000000 in
set_option maxRecDepth 100000 in
theorem wX12_chooses {Γ : gT} {ws : va_W} (K : gOK Γ cX12_chooses gU RX12) (hlt : ∀ i, i < 5 → i < g_n Γ) (hRm : g_R Γ = ({ frames := 4, cells := 0, slots := 0, locals := 150 } : Room)) {res : Int64} (hret : ∀ (pc : Nat) (L : List (Nat × Value)) (v : Int64) (w : va_W), decode cX12_chooses pc = .ok (.lreturn, 1) → (v = res ∧ w = ws) → gGO Γ 0 0 pc L [.long v] w) (x0 : Int32) (x1 : Int32) (h : pX12_chooses x0 x1 = some res) : gGO Γ 0 0 0 [(0, .int x0), (1, .int x1)] [] (ws) := by
    unfold pX12_chooses at h
    refine g_iload_n K dX12_chooses_0 rfl 1 rfl ?_
    obtain ⟨ht9, hf9⟩ := gi_br h; clear h
    refine g_if_lt (tgt := 9) K dX12_chooses_1 (by decide) (fun qh => ?_) (fun qh => ?_)
    · have h := ht9 qh; clear ht9 hf9
      refine g_lconst (v := 0) K dX12_chooses_9 (by decide) ?_
      obtain rfl := Option.some.inj h
      exact hret _ _ _ _ dX12_chooses_10 ⟨rfl, rfl⟩
    · have h := hf9 qh; clear ht9 hf9
      refine g_iload_n K dX12_chooses_4 rfl 1 rfl ?_
      refine g_iload_n K dX12_chooses_5 rfl 0 rfl ?_
      obtain ⟨ht9, hf9⟩ := gi_br h; clear h
      refine g_icmp_le (tgt := 11) K dX12_chooses_6 (by decide) (fun qh => ?_) (fun qh => ?_)
      · have h := ht9 qh; clear ht9 hf9
        refine g_lconst (v := 1) K dX12_chooses_11 (by decide) ?_
        refine g_lstore_n (L' := [(2, .long 1), (0, .int x0), (1, .int x1)]) K dX12_chooses_12 rfl (hlt _ (by decide)) rfl ?_
        refine g_iconst (v := 1) K dX12_chooses_13 (by decide) ?_
        refine g_istore (L' := [(4, .int 1), (2, .long 1), (0, .int x0), (1, .int x1)]) K dX12_chooses_14 (hlt _ (by decide)) rfl ?_
        refine g_sub (L' := [(0, .int x0), (1, .int x1), (2, .long 1), (4, .int 1)]) [2, 3, 1, 0] rfl ?_
        exact wX12_chooses_16 K hlt hRm hret 1000 x0 x1 1 1 h
      · have h := hf9 qh; clear ht9 hf9
        refine g_lconst (v := 0) K dX12_chooses_9 (by decide) ?_
        obtain rfl := Option.some.inj h
        exact hret _ _ _ _ dX12_chooses_10 ⟨rfl, rfl⟩

set_option maxRecDepth 100000 in
theorem ctX12_chooses {E : gE} {ws : va_W} (x0 : Int32) (x1 : Int32) {res : Int64} (h : pX12_chooses x0 x1 = some res) : gMl yX12_chooses (.code yX12_chooses cX12_chooses 5 (some .long) :: gU) ({ frames := 4, cells := 0, slots := 0, locals := 150 } : Room) 0 0 E [.int x0, .int x1] ws (fun v w => v = res ∧ w = ws) := by
  refine g_met_l (by decide +kernel) (Nat.le_of_ble_eq_true rfl) (fun Γ K hn hE hRm _ hret => ?_)
  subst hE
  have hlt : ∀ i, i < 5 → i < g_n Γ := fun i q => by rw [hn]; exact q
  refine g_sub (L' := [(0, .int x0), (1, .int x1)]) [0, 1] rfl ?_
  exact wX12_chooses K hlt hRm hret x0 x1 h

set_option maxHeartbeats 4000000 in
set_option maxRecDepth 100000 in
theorem wX12_divisor_17 {Γ : gT} {ws : va_W} (K : gOK Γ cX12_divisor gU RX12) (hlt : ∀ i, i < 10 → i < g_n Γ) (hRm : g_R Γ = ({ frames := 4, cells := 0, slots := 0, locals := 150 } : Room)) {res : Int64} (hret : ∀ (pc : Nat) (L : List (Nat × Value)) (v : Int64) (w : va_W), decode cX12_divisor pc = .ok (.lreturn, 1) → (v = res ∧ w = ws) → gGO Γ 0 0 pc L [.long v] w) : ∀ (n : Nat) (x4 : Int64) (x6 : Int64), pX12_divisor_17 n x4 x6 = some res → gGO Γ 0 0 17 [(4, .long x4), (6, .long x6)] [] (ws) := by
  intro n
  induction n with
  | zero => intro _ _ h; cases h
  | succ n ih =>
    intro x4 x6 h
    simp only [pX12_divisor_17] at h
    refine g_lload K dX12_divisor_17 1 rfl ?_
    refine g_lconst (v := 0) K dX12_divisor_19 (by decide) ?_
    refine g_lcmp K dX12_divisor_20 ?_
    obtain ⟨ht9, hf9⟩ := gi_br h; clear h
    refine g_if_eq (tgt := 42) K dX12_divisor_21 (by decide) (fun qh => ?_) (fun qh => ?_)
    · have h := ht9 qh; clear ht9 hf9
      refine g_lload K dX12_divisor_42 0 rfl ?_
      obtain rfl := Option.some.inj h
      exact hret _ _ _ _ dX12_divisor_44 ⟨rfl, rfl⟩
    · have h := hf9 qh; clear ht9 hf9
      refine g_lload K dX12_divisor_24 0 rfl ?_
      refine g_lload K dX12_divisor_26 1 rfl ?_
      obtain ⟨c_1, h⟩ := gi_none h
      refine g_lrem K dX12_divisor_28 c_1 ?_
      obtain ⟨v_2, ev_2, h⟩ := gi_nm h
      refine g_topl ev_2 ?_
      refine g_lstore (L' := [(8, .long v_2), (4, .long x4), (6, .long x6)]) K dX12_divisor_29 (hlt _ (by decide)) rfl ?_
      refine g_lload K dX12_divisor_31 2 rfl ?_
      refine g_lstore (L' := [(4, .long x6), (8, .long v_2), (6, .long x6)]) K dX12_divisor_33 (hlt _ (by decide)) rfl ?_
      refine g_lload K dX12_divisor_35 1 rfl ?_
      refine g_lstore (L' := [(6, .long v_2), (4, .long x6), (8, .long v_2)]) K dX12_divisor_37 (hlt _ (by decide)) rfl ?_
      refine g_goto (tgt := 17) K dX12_divisor_39 (by decide) ?_
      refine g_sub (L' := [(4, .long x6), (6, .long v_2)]) [1, 0] rfl ?_
      exact ih x6 v_2 h

set_option maxHeartbeats 4000000 in
set_option maxRecDepth 100000 in
theorem wX12_divisor {Γ : gT} {ws : va_W} (K : gOK Γ cX12_divisor gU RX12) (hlt : ∀ i, i < 10 → i < g_n Γ) (hRm : g_R Γ = ({ frames := 4, cells := 0, slots := 0, locals := 150 } : Room)) {res : Int64} (hret : ∀ (pc : Nat) (L : List (Nat × Value)) (v : Int64) (w : va_W), decode cX12_divisor pc = .ok (.lreturn, 1) → (v = res ∧ w = ws) → gGO Γ 0 0 pc L [.long v] w) (x0 : Int64) (x2 : Int64) (h : pX12_divisor x0 x2 = some res) : gGO Γ 0 0 0 [(0, .long x0), (2, .long x2)] [] (ws) := by
    unfold pX12_divisor at h
    refine g_lload_n K dX12_divisor_0 rfl 0 rfl ?_
    refine g_lconst (v := 0) K dX12_divisor_1 (by decide) ?_
    refine g_lcmp K dX12_divisor_2 ?_
    obtain ⟨ht9, hf9⟩ := gi_br h; clear h
    refine g_if_ge (tgt := 11) K dX12_divisor_3 (by decide) (fun qh => ?_) (fun qh => ?_)
    · have h := ht9 qh; clear ht9 hf9
      refine g_lload_n K dX12_divisor_11 rfl 0 rfl ?_
      refine g_lstore (L' := [(4, .long x0), (0, .long x0), (2, .long x2)]) K dX12_divisor_12 (hlt _ (by decide)) rfl ?_
      refine g_lload_n K dX12_divisor_14 rfl 2 rfl ?_
      refine g_lstore (L' := [(6, .long x2), (4, .long x0), (0, .long x0), (2, .long x2)]) K dX12_divisor_15 (hlt _ (by decide)) rfl ?_
      refine g_sub (L' := [(4, .long x0), (6, .long x2)]) [1, 0] rfl ?_
      exact wX12_divisor_17 K hlt hRm hret 1000 x0 x2 h
    · have h := hf9 qh; clear ht9 hf9
      refine g_lload_n K dX12_divisor_6 rfl 0 rfl ?_
      refine g_lneg K dX12_divisor_7 ?_
      refine g_goto (tgt := 12) K dX12_divisor_8 (by decide) ?_
      obtain ⟨v_1, ev_1, h⟩ := gi_nm h
      refine g_topl ev_1 ?_
      refine g_lstore (L' := [(4, .long v_1), (0, .long x0), (2, .long x2)]) K dX12_divisor_12 (hlt _ (by decide)) rfl ?_
      refine g_lload_n K dX12_divisor_14 rfl 2 rfl ?_
      refine g_lstore (L' := [(6, .long x2), (4, .long v_1), (0, .long x0), (2, .long x2)]) K dX12_divisor_15 (hlt _ (by decide)) rfl ?_
      refine g_sub (L' := [(4, .long v_1), (6, .long x2)]) [1, 0] rfl ?_
      exact wX12_divisor_17 K hlt hRm hret 1000 v_1 x2 h

set_option maxRecDepth 100000 in
theorem ctX12_divisor {E : gE} {ws : va_W} (x0 : Int64) (x2 : Int64) {res : Int64} (h : pX12_divisor x0 x2 = some res) : gMl yX12_divisor (.code yX12_divisor cX12_divisor 10 (some .long) :: gU) ({ frames := 4, cells := 0, slots := 0, locals := 150 } : Room) 0 0 E [.long x0, .long x2] ws (fun v w => v = res ∧ w = ws) := by
  refine g_met_l (by decide +kernel) (Nat.le_of_ble_eq_true rfl) (fun Γ K hn hE hRm _ hret => ?_)
  subst hE
  have hlt : ∀ i, i < 10 → i < g_n Γ := fun i q => by rw [hn]; exact q
  refine g_sub (L' := [(0, .long x0), (2, .long x2)]) [0, 1] rfl ?_
  exact wX12_divisor K hlt hRm hret x0 x2 h

set_option maxHeartbeats 4000000 in
set_option maxRecDepth 100000 in
theorem wX12_lowest {Γ : gT} {ws : va_W} (K : gOK Γ cX12_lowest gU RX12) (hlt : ∀ i, i < 5 → i < g_n Γ) (hRm : g_R Γ = ({ frames := 5, cells := 0, slots := 0, locals := 179 } : Room)) {res : Int64} (hret : ∀ (pc : Nat) (L : List (Nat × Value)) (v : Int64) (w : va_W), decode cX12_lowest pc = .ok (.lreturn, 1) → (v = res ∧ w = ws) → gGO Γ 0 0 pc L [.long v] w) (x0 : Int64) (x2 : Int64) (x4 : Int32) (h : pX12_lowest x0 x2 x4 = some res) : gGO Γ 0 0 0 [(0, .long x0), (2, .long x2), (4, .int x4)] [] (ws) := by
    unfold pX12_lowest at h
    refine g_iload K dX12_lowest_0 2 rfl ?_
    obtain ⟨ht9, hf9⟩ := gi_br h; clear h
    refine g_if_ne (tgt := 9) K dX12_lowest_2 (by decide) (fun qh => ?_) (fun qh => ?_)
    · have h := hf9 qh; clear ht9 hf9
      refine g_lload_n K dX12_lowest_9 rfl 1 rfl ?_
      refine g_lload_n K dX12_lowest_10 rfl 0 rfl ?_
      refine g_lload_n K dX12_lowest_11 rfl 1 rfl ?_
      obtain ⟨z_1, hz_1, h⟩ := gi_bd h
      refine g_callSl (As := [.long x0, .long x2]) (bytes := cX12_divisor) (maxL := 10) (ret := (some .long)) K (ctX12_divisor (ws := ws) x0 x2 (res := z_1) hz_1) gc_S_RX12_218_X12_divisor rfl qs_X12_divisor hRm rfl rfl rfl (by decide) (Nat.le_of_ble_eq_true rfl) (by decide) dX12_lowest_12 (fun v w hw => ?_)
      obtain ⟨hv9, rfl⟩ := hw; have hv9 := hv9.symm; subst hv9
      obtain ⟨c_2, h⟩ := gi_none h
      refine g_ldiv K dX12_lowest_15 c_2 ?_
      obtain rfl := Option.some.inj h
      exact hret _ _ _ _ dX12_lowest_16 ⟨rfl, rfl⟩
    · have h := ht9 qh; clear ht9 hf9
      refine g_lload_n K dX12_lowest_5 rfl 0 rfl ?_
      refine g_goto (tgt := 10) K dX12_lowest_6 (by decide) ?_
      refine g_lload_n K dX12_lowest_10 rfl 0 rfl ?_
      refine g_lload_n K dX12_lowest_11 rfl 1 rfl ?_
      obtain ⟨z_3, hz_3, h⟩ := gi_bd h
      refine g_callSl (As := [.long x0, .long x2]) (bytes := cX12_divisor) (maxL := 10) (ret := (some .long)) K (ctX12_divisor (ws := ws) x0 x2 (res := z_3) hz_3) gc_S_RX12_218_X12_divisor rfl qs_X12_divisor hRm rfl rfl rfl (by decide) (Nat.le_of_ble_eq_true rfl) (by decide) dX12_lowest_12 (fun v w hw => ?_)
      obtain ⟨hv9, rfl⟩ := hw; have hv9 := hv9.symm; subst hv9
      obtain ⟨c_4, h⟩ := gi_none h
      refine g_ldiv K dX12_lowest_15 c_4 ?_
      obtain rfl := Option.some.inj h
      exact hret _ _ _ _ dX12_lowest_16 ⟨rfl, rfl⟩

set_option maxRecDepth 100000 in
theorem ctX12_lowest {E : gE} {ws : va_W} (x0 : Int64) (x2 : Int64) (x4 : Int32) {res : Int64} (h : pX12_lowest x0 x2 x4 = some res) : gMl yX12_lowest (.code yX12_lowest cX12_lowest 5 (some .long) :: gU) ({ frames := 5, cells := 0, slots := 0, locals := 179 } : Room) 0 0 E [.long x0, .long x2, .int x4] ws (fun v w => v = res ∧ w = ws) := by
  refine g_met_l (by decide +kernel) (Nat.le_of_ble_eq_true rfl) (fun Γ K hn hE hRm _ hret => ?_)
  subst hE
  have hlt : ∀ i, i < 5 → i < g_n Γ := fun i q => by rw [hn]; exact q
  refine g_sub (L' := [(0, .long x0), (2, .long x2), (4, .int x4)]) [0, 1, 2] rfl ?_
  exact wX12_lowest K hlt hRm hret x0 x2 x4 h

set_option maxHeartbeats 4000000 in
set_option maxRecDepth 100000 in
theorem wX12_chance {Γ : gT} {m : Nat} {r : Nat → Nat} {o : Nat → Int32} {A : Nat → Nat → Int32} (K : gOK Γ cX12_chance gU RX12) (hlt : ∀ i, i < 6 → i < g_n Γ) (hRm : g_R Γ = ({ frames := 6, cells := 0, slots := 0, locals := 203 } : Room)) {res : Int64} (hret : ∀ (pc : Nat) (L : List (Nat × Value)) (v : Int64) (w : va_W), decode cX12_chance pc = .ok (.lreturn, 1) → (v = res ∧ w = mw (g_E Γ) m r o A) → gGO Γ 0 0 pc L [.long v] w) (x1 : Int32) (x2 : Int32) (x3 : Int32) (x4 : Int32) (x5 : Int32) (h : pX12_chance x1 x2 x3 x4 x5 = some res) : gGO Γ 0 0 0 [(0, .ref m), (1, .int x1), (2, .int x2), (3, .int x3), (4, .int x4), (5, .int x5)] [] (mw (g_E Γ) m r o A) := by
    unfold pX12_chance at h
    refine g_iload_n K dX12_chance_0 rfl 1 rfl ?_
    refine g_iconst (v := 1) K dX12_chance_1 (by decide) ?_
    refine g_bipush (v := 30) K dX12_chance_2 (by decide) ?_
    obtain ⟨z_1, hz_1, h⟩ := gi_bd h
    refine g_callSi (As := [.int x1, .int 1, .int 30]) (bytes := cX12_in) (maxL := 3) (ret := (some .boolean)) K (ctX12_in (ws := mw (g_E Γ) m r o A) x1 1 30 (res := z_1) hz_1) gc_S_RX12_50_X12_in rfl qs_X12_in hRm rfl rfl rfl (by decide) (Nat.le_of_ble_eq_true rfl) (by decide) dX12_chance_4 (fun v w hw => ?_)
    obtain ⟨hv9, rfl⟩ := hw; have hv9 := hv9.symm; subst hv9
    obtain ⟨ht9, hf9⟩ := gi_br h; clear h
    refine g_if_eq (tgt := 48) K dX12_chance_7 (by decide) (fun qh => ?_) (fun qh => ?_)
    · have h := ht9 qh; clear ht9 hf9
      refine g_ldc2 (v := (-9223372036854775808)) K u_1282 dX12_chance_48 ?_
      obtain rfl := Option.some.inj h
      exact hret _ _ _ _ dX12_chance_51 ⟨rfl, rfl⟩
    · have h := hf9 qh; clear ht9 hf9
      refine g_iload_n K dX12_chance_10 rfl 2 rfl ?_
      refine g_iconst (v := 0) K dX12_chance_11 (by decide) ?_
      refine g_iload_n K dX12_chance_12 rfl 1 rfl ?_
      obtain ⟨z_2, hz_2, h⟩ := gi_bd h
      refine g_callSi (As := [.int x2, .int 0, .int x1]) (bytes := cX12_in) (maxL := 3) (ret := (some .boolean)) K (ctX12_in (ws := mw (g_E Γ) m r o A) x2 0 x1 (res := z_2) hz_2) gc_S_RX12_50_X12_in rfl qs_X12_in hRm rfl rfl rfl (by decide) (Nat.le_of_ble_eq_true rfl) (by decide) dX12_chance_13 (fun v w hw => ?_)
      obtain ⟨hv9, rfl⟩ := hw; have hv9 := hv9.symm; subst hv9
      obtain ⟨ht9, hf9⟩ := gi_br h; clear h
      refine g_if_eq (tgt := 48) K dX12_chance_16 (by decide) (fun qh => ?_) (fun qh => ?_)
      · have h := ht9 qh; clear ht9 hf9
        refine g_ldc2 (v := (-9223372036854775808)) K u_1282 dX12_chance_48 ?_
        obtain rfl := Option.some.inj h
        exact hret _ _ _ _ dX12_chance_51 ⟨rfl, rfl⟩
      · have h := hf9 qh; clear ht9 hf9
        refine g_iload_n K dX12_chance_19 rfl 3 rfl ?_
        refine g_iconst (v := 0) K dX12_chance_20 (by decide) ?_
        refine g_iload_n K dX12_chance_21 rfl 1 rfl ?_
        obtain ⟨z_3, hz_3, h⟩ := gi_bd h
        refine g_callSi (As := [.int x3, .int 0, .int x1]) (bytes := cX12_in) (maxL := 3) (ret := (some .boolean)) K (ctX12_in (ws := mw (g_E Γ) m r o A) x3 0 x1 (res := z_3) hz_3) gc_S_RX12_50_X12_in rfl qs_X12_in hRm rfl rfl rfl (by decide) (Nat.le_of_ble_eq_true rfl) (by decide) dX12_chance_22 (fun v w hw => ?_)
        obtain ⟨hv9, rfl⟩ := hw; have hv9 := hv9.symm; subst hv9
        obtain ⟨ht9, hf9⟩ := gi_br h; clear h
        refine g_if_eq (tgt := 48) K dX12_chance_25 (by decide) (fun qh => ?_) (fun qh => ?_)
        · have h := ht9 qh; clear ht9 hf9
          refine g_ldc2 (v := (-9223372036854775808)) K u_1282 dX12_chance_48 ?_
          obtain rfl := Option.some.inj h
          exact hret _ _ _ _ dX12_chance_51 ⟨rfl, rfl⟩
        · have h := hf9 qh; clear ht9 hf9
          refine g_iload K dX12_chance_28 4 rfl ?_
          refine g_iconst (v := 0) K dX12_chance_30 (by decide) ?_
          refine g_iload_n K dX12_chance_31 rfl 3 rfl ?_
          obtain ⟨z_4, hz_4, h⟩ := gi_bd h
          refine g_callSi (As := [.int x4, .int 0, .int x3]) (bytes := cX12_in) (maxL := 3) (ret := (some .boolean)) K (ctX12_in (ws := mw (g_E Γ) m r o A) x4 0 x3 (res := z_4) hz_4) gc_S_RX12_50_X12_in rfl qs_X12_in hRm rfl rfl rfl (by decide) (Nat.le_of_ble_eq_true rfl) (by decide) dX12_chance_32 (fun v w hw => ?_)
          obtain ⟨hv9, rfl⟩ := hw; have hv9 := hv9.symm; subst hv9
          obtain ⟨ht9, hf9⟩ := gi_br h; clear h
          refine g_if_eq (tgt := 48) K dX12_chance_35 (by decide) (fun qh => ?_) (fun qh => ?_)
          · have h := ht9 qh; clear ht9 hf9
            refine g_ldc2 (v := (-9223372036854775808)) K u_1282 dX12_chance_48 ?_
            obtain rfl := Option.some.inj h
            exact hret _ _ _ _ dX12_chance_51 ⟨rfl, rfl⟩
          · have h := hf9 qh; clear ht9 hf9
            refine g_iload K dX12_chance_38 5 rfl ?_
            refine g_iconst (v := 0) K dX12_chance_40 (by decide) ?_
            refine g_iconst (v := 1) K dX12_chance_41 (by decide) ?_
            obtain ⟨z_5, hz_5, h⟩ := gi_bd h
            refine g_callSi (As := [.int x5, .int 0, .int 1]) (bytes := cX12_in) (maxL := 3) (ret := (some .boolean)) K (ctX12_in (ws := mw (g_E Γ) m r o A) x5 0 1 (res := z_5) hz_5) gc_S_RX12_50_X12_in rfl qs_X12_in hRm rfl rfl rfl (by decide) (Nat.le_of_ble_eq_true rfl) (by decide) dX12_chance_42 (fun v w hw => ?_)
            obtain ⟨hv9, rfl⟩ := hw; have hv9 := hv9.symm; subst hv9
            obtain ⟨ht9, hf9⟩ := gi_br h; clear h
            refine g_if_ne (tgt := 52) K dX12_chance_45 (by decide) (fun qh => ?_) (fun qh => ?_)
            · have h := hf9 qh; clear ht9 hf9
              refine g_iload_n K dX12_chance_52 rfl 2 rfl ?_
              refine g_iload K dX12_chance_53 4 rfl ?_
              obtain ⟨z_6, hz_6, h⟩ := gi_bd h
              refine g_callSl (As := [.int x2, .int x4]) (bytes := cX12_chooses) (maxL := 5) (ret := (some .long)) K (ctX12_chooses (ws := mw (g_E Γ) m r o A) x2 x4 (res := z_6) hz_6) gc_S_RX12_224_X12_chooses rfl qs_X12_chooses hRm rfl rfl rfl (by decide) (Nat.le_of_ble_eq_true rfl) (by decide) dX12_chance_55 (fun v w hw => ?_)
              obtain ⟨hv9, rfl⟩ := hw; have hv9 := hv9.symm; subst hv9
              refine g_iload_n K dX12_chance_58 rfl 1 rfl ?_
              refine g_iload_n K dX12_chance_59 rfl 2 rfl ?_
              refine g_isub K dX12_chance_60 ?_
              refine g_iload_n K dX12_chance_61 rfl 3 rfl ?_
              refine g_iload K dX12_chance_62 4 rfl ?_
              refine g_isub K dX12_chance_64 ?_
              obtain ⟨z_7, hz_7, h⟩ := gi_bd h
              refine g_callSl (As := [.int (x1 - x2), .int (x3 - x4)]) (bytes := cX12_chooses) (maxL := 5) (ret := (some .long)) K (ctX12_chooses (ws := mw (g_E Γ) m r o A) (x1 - x2) (x3 - x4) (res := z_7) hz_7) gc_S_RX12_224_X12_chooses rfl qs_X12_chooses hRm rfl rfl rfl (by decide) (Nat.le_of_ble_eq_true rfl) (by decide) dX12_chance_65 (fun v w hw => ?_)
              obtain ⟨hv9, rfl⟩ := hw; have hv9 := hv9.symm; subst hv9
              refine g_lmul K dX12_chance_68 ?_
              refine g_iload_n K dX12_chance_69 rfl 1 rfl ?_
              refine g_iload_n K dX12_chance_70 rfl 3 rfl ?_
              obtain ⟨z_8, hz_8, h⟩ := gi_bd h
              refine g_callSl (As := [.int x1, .int x3]) (bytes := cX12_chooses) (maxL := 5) (ret := (some .long)) K (ctX12_chooses (ws := mw (g_E Γ) m r o A) x1 x3 (res := z_8) hz_8) gc_S_RX12_224_X12_chooses rfl qs_X12_chooses hRm rfl rfl rfl (by decide) (Nat.le_of_ble_eq_true rfl) (by decide) dX12_chance_71 (fun v w hw => ?_)
              obtain ⟨hv9, rfl⟩ := hw; have hv9 := hv9.symm; subst hv9
              refine g_iload K dX12_chance_74 5 rfl ?_
              obtain ⟨z_9, hz_9, h⟩ := gi_bd h
              refine g_callSl (As := [.long (z_6 * z_7), .long z_8, .int x5]) (bytes := cX12_lowest) (maxL := 5) (ret := (some .long)) K (ctX12_lowest (ws := mw (g_E Γ) m r o A) (z_6 * z_7) z_8 x5 (res := z_9) hz_9) gc_S_RX12_228_X12_lowest rfl qs_X12_lowest hRm rfl rfl rfl (by decide) (Nat.le_of_ble_eq_true rfl) (by decide) dX12_chance_76 (fun v w hw => ?_)
              obtain ⟨hv9, rfl⟩ := hw; have hv9 := hv9.symm; subst hv9
              obtain rfl := Option.some.inj h
              exact hret _ _ _ _ dX12_chance_79 ⟨rfl, rfl⟩
            · have h := ht9 qh; clear ht9 hf9
              refine g_ldc2 (v := (-9223372036854775808)) K u_1282 dX12_chance_48 ?_
              obtain rfl := Option.some.inj h
              exact hret _ _ _ _ dX12_chance_51 ⟨rfl, rfl⟩

set_option maxRecDepth 100000 in
theorem ctX12_chance {E : gE} {m : Nat} {r : Nat → Nat} (o : Nat → Int32) (A : Nat → Nat → Int32) (x1 : Int32) (x2 : Int32) (x3 : Int32) (x4 : Int32) (x5 : Int32) {res : Int64} (h : pX12_chance x1 x2 x3 x4 x5 = some res) : gMl yX12_chance (.code yX12_chance cX12_chance 6 (some .long) :: gU) ({ frames := 6, cells := 0, slots := 0, locals := 203 } : Room) 0 0 E [.ref m, .int x1, .int x2, .int x3, .int x4, .int x5] (mw E m r o A) (fun v w => v = res ∧ w = mw E m r o A) := by
  refine g_met_l (by decide +kernel) (Nat.le_of_ble_eq_true rfl) (fun Γ K hn hE hRm _ hret => ?_)
  subst hE
  have hlt : ∀ i, i < 6 → i < g_n Γ := fun i q => by rw [hn]; exact q
  refine g_sub (L' := [(0, .ref m), (1, .int x1), (2, .int x2), (3, .int x3), (4, .int x4), (5, .int x5)]) [0, 1, 2, 3, 4, 5] rfl ?_
  exact wX12_chance K hlt hRm hret x1 x2 x3 x4 x5 h

set_option maxHeartbeats 4000000 in
set_option maxRecDepth 100000 in
theorem wX12_book {Γ : gT} {m : Nat} {r : Nat → Nat} {o : Nat → Int32} {A : Nat → Nat → Int32} (K : gOK Γ cX12_book gU RX12) (hlt : ∀ i, i < 5 → i < g_n Γ) (hRm : g_R Γ = ({ frames := 6, cells := 0, slots := 0, locals := 193 } : Room)) {res : Int32 × ((Nat → Int32))} (hret : ∀ (pc : Nat) (L : List (Nat × Value)) (v : Int32) (w : va_W), decode cX12_book pc = .ok (.ireturn, 1) → narrow .int (.int v) = .int v → (v = res.1 ∧ w = mw (g_E Γ) m r o (gu A 1 res.2)) → gGO Γ 0 0 pc L [.int v] w) (a1 : (Nat → Int32)) (x1 : Int32) (x2 : Int32) (x3 : Int32) (h : pX12_book a1 x1 x2 x3 = some res) : gGO Γ 0 0 0 [(0, .ref m), (1, .int x1), (2, .int x2), (3, .int x3)] [] (mw (g_E Γ) m r o (gu A 1 a1)) := by
    unfold pX12_book at h
    refine g_aload_n K dX12_book_0 rfl 0 rfl ?_
    refine g_iload_n K dX12_book_1 rfl 1 rfl ?_
    obtain ⟨z_1, hz_1, h⟩ := gi_bd h
    refine g_callVi (As := [.int x1]) (bytes := cX12_isWorker) (maxL := 2) (ret := (some .boolean)) K (ctX12_isWorker o (gu A 1 a1) x1 (res := z_1) hz_1) gc_V_RX12_146_X12_isWorker rfl qv_X12_isWorker 0 rfl rfl rfl hRm rfl rfl rfl (by decide) (Nat.le_of_ble_eq_true rfl) (by decide) dX12_book_2 (fun v w hw => ?_)
    obtain ⟨hv9, rfl⟩ := hw; have hv9 := hv9.symm; subst hv9
    obtain ⟨ht9, hf9⟩ := gi_br h; clear h
    refine g_if_eq (tgt := 16) K dX12_book_5 (by decide) (fun qh => ?_) (fun qh => ?_)
    · have h := ht9 qh; clear ht9 hf9
      refine g_iconst (v := (-1)) K dX12_book_16 (by decide) ?_
      obtain rfl := Option.some.inj h
      exact hret _ _ _ _ dX12_book_17 rfl ⟨rfl, rfl⟩
    · have h := hf9 qh; clear ht9 hf9
      refine g_aload_n K dX12_book_8 rfl 0 rfl ?_
      refine g_iload_n K dX12_book_9 rfl 2 rfl ?_
      obtain ⟨z_2, hz_2, h⟩ := gi_bd h
      refine g_callVi (As := [.int x2]) (bytes := cX12_isChief) (maxL := 2) (ret := (some .boolean)) K (ctX12_isChief o (gu A 1 a1) x2 (res := z_2) hz_2) gc_V_RX12_138_X12_isChief rfl qv_X12_isChief 0 rfl rfl rfl hRm rfl rfl rfl (by decide) (Nat.le_of_ble_eq_true rfl) (by decide) dX12_book_10 (fun v w hw => ?_)
      obtain ⟨hv9, rfl⟩ := hw; have hv9 := hv9.symm; subst hv9
      obtain ⟨ht9, hf9⟩ := gi_br h; clear h
      refine g_if_ne (tgt := 18) K dX12_book_13 (by decide) (fun qh => ?_) (fun qh => ?_)
      · have h := hf9 qh; clear ht9 hf9
        refine g_iload_n K dX12_book_18 rfl 3 rfl ?_
        refine g_iconst (v := 1) K dX12_book_19 (by decide) ?_
        refine g_iconst (v := 5) K dX12_book_20 (by decide) ?_
        obtain ⟨z_3, hz_3, h⟩ := gi_bd h
        refine g_callSi (As := [.int x3, .int 1, .int 5]) (bytes := cX12_in) (maxL := 3) (ret := (some .boolean)) K (ctX12_in (ws := mw (g_E Γ) m r o (gu A 1 a1)) x3 1 5 (res := z_3) hz_3) gc_S_RX12_50_X12_in rfl qs_X12_in hRm rfl rfl rfl (by decide) (Nat.le_of_ble_eq_true rfl) (by decide) dX12_book_21 (fun v w hw => ?_)
        obtain ⟨hv9, rfl⟩ := hw; have hv9 := hv9.symm; subst hv9
        obtain ⟨ht9, hf9⟩ := gi_br h; clear h
        refine g_if_ne (tgt := 30) K dX12_book_24 (by decide) (fun qh => ?_) (fun qh => ?_)
        · have h := hf9 qh; clear ht9 hf9
          refine g_aload_n K dX12_book_30 rfl 0 rfl ?_
          refine mg_1 K hin_X12 (u_980) dX12_book_31 ?_
          refine g_bipush (v := 54) K dX12_book_34 (by decide) ?_
          obtain ⟨b_4, h⟩ := gi_none h
          refine g_iald (f := a1) K 1 rfl (ginb_in b_4) dX12_book_36 ?_
          refine g_bipush (v := 20) K dX12_book_37 (by decide) ?_
          obtain ⟨ht9, hf9⟩ := gi_br h; clear h
          refine g_icmp_ne (tgt := 45) K dX12_book_39 (by decide) (fun qh => ?_) (fun qh => ?_)
          · have h := hf9 qh; clear ht9 hf9
            refine g_aload_n K dX12_book_45 rfl 0 rfl ?_
            refine mg_1 K hin_X12 (u_980) dX12_book_46 ?_
            refine g_bipush (v := 54) K dX12_book_49 (by decide) ?_
            obtain ⟨b_5, h⟩ := gi_none h
            refine g_iald (f := a1) K 1 rfl (ginb_in b_5) dX12_book_51 ?_
            obtain ⟨v_6, ev_6, h⟩ := gi_nm h
            refine g_topi ev_6 ?_
            refine g_istore (L' := [(4, .int v_6), (0, .ref m), (1, .int x1), (2, .int x2), (3, .int x3)]) K dX12_book_52 (hlt _ (by decide)) rfl ?_
            refine g_aload_n K dX12_book_54 rfl 1 rfl ?_
            refine mg_1 K hin_X12 (u_980) dX12_book_55 ?_
            refine g_bipush (v := 72) K dX12_book_58 (by decide) ?_
            refine g_iload K dX12_book_60 0 rfl ?_
            refine g_iadd K dX12_book_62 ?_
            refine g_iload_n K dX12_book_63 rfl 2 rfl ?_
            obtain ⟨b_7, h⟩ := gi_none h
            obtain ⟨f_8, ef_8, h⟩ := gi_nm h
            refine g_iast (f := a1) (ws' := mw (g_E Γ) m r o (gu A 1 f_8)) K 1 rfl (ginb_in b_7) dX12_book_64 (by rw [ef_8]; rfl) ?_
            refine g_aload_n K dX12_book_65 rfl 1 rfl ?_
            refine mg_1 K hin_X12 (u_980) dX12_book_66 ?_
            refine g_bipush (v := 92) K dX12_book_69 (by decide) ?_
            refine g_iload K dX12_book_71 0 rfl ?_
            refine g_iadd K dX12_book_73 ?_
            refine g_iload_n K dX12_book_74 rfl 3 rfl ?_
            obtain ⟨b_9, h⟩ := gi_none h
            obtain ⟨f_10, ef_10, h⟩ := gi_nm h
            refine g_iast (f := f_8) (ws' := mw (g_E Γ) m r o (gu A 1 f_10)) K 1 rfl (ginb_in b_9) dX12_book_75 (by rw [ef_10]; rfl) ?_
            refine g_aload_n K dX12_book_76 rfl 1 rfl ?_
            refine mg_1 K hin_X12 (u_980) dX12_book_77 ?_
            refine g_bipush (v := 112) K dX12_book_80 (by decide) ?_
            refine g_iload K dX12_book_82 0 rfl ?_
            refine g_iadd K dX12_book_84 ?_
            refine g_iload_n K dX12_book_85 rfl 4 rfl ?_
            obtain ⟨b_11, h⟩ := gi_none h
            obtain ⟨f_12, ef_12, h⟩ := gi_nm h
            refine g_iast (f := f_10) (ws' := mw (g_E Γ) m r o (gu A 1 f_12)) K 1 rfl (ginb_in b_11) dX12_book_86 (by rw [ef_12]; rfl) ?_
            refine g_aload_n K dX12_book_87 rfl 1 rfl ?_
            refine mg_1 K hin_X12 (u_980) dX12_book_88 ?_
            refine g_bipush (v := 54) K dX12_book_91 (by decide) ?_
            refine g_dup2 K dX12_book_93 rfl rfl ?_
            obtain ⟨b_13, h⟩ := gi_none h
            refine g_iald (f := f_12) K 1 rfl (ginb_in b_13) dX12_book_94 ?_
            refine g_iconst (v := 1) K dX12_book_95 (by decide) ?_
            refine g_iadd K dX12_book_96 ?_
            obtain ⟨b_14, h⟩ := gi_none h
            obtain ⟨f_15, ef_15, h⟩ := gi_nm h
            refine g_iast (f := f_12) (ws' := mw (g_E Γ) m r o (gu A 1 f_15)) K 1 rfl (ginb_in b_14) dX12_book_97 (by rw [ef_15]; rfl) ?_
            refine g_aload_n K dX12_book_98 rfl 1 rfl ?_
            refine mg_1 K hin_X12 (u_980) dX12_book_99 ?_
            refine g_bipush (v := 54) K dX12_book_102 (by decide) ?_
            obtain ⟨b_16, h⟩ := gi_none h
            refine g_iald (f := f_15) K 1 rfl (ginb_in b_16) dX12_book_104 ?_
            obtain rfl := Option.some.inj h
            exact hret _ _ _ _ dX12_book_105 rfl ⟨rfl, rfl⟩
          · have h := ht9 qh; clear ht9 hf9
            refine g_bipush (v := (-4)) K dX12_book_42 (by decide) ?_
            obtain rfl := Option.some.inj h
            exact hret _ _ _ _ dX12_book_44 rfl ⟨rfl, rfl⟩
        · have h := ht9 qh; clear ht9 hf9
          refine g_bipush (v := (-2)) K dX12_book_27 (by decide) ?_
          obtain rfl := Option.some.inj h
          exact hret _ _ _ _ dX12_book_29 rfl ⟨rfl, rfl⟩
      · have h := ht9 qh; clear ht9 hf9
        refine g_iconst (v := (-1)) K dX12_book_16 (by decide) ?_
        obtain rfl := Option.some.inj h
        exact hret _ _ _ _ dX12_book_17 rfl ⟨rfl, rfl⟩

set_option maxRecDepth 100000 in
theorem ctX12_book {E : gE} {m : Nat} {r : Nat → Nat} (o : Nat → Int32) (A : Nat → Nat → Int32) (x1 : Int32) (x2 : Int32) (x3 : Int32) {res : Int32 × ((Nat → Int32))} (h : pX12_book (A 1) x1 x2 x3 = some res) : gMi yX12_book (.code yX12_book cX12_book 5 (some .int) :: gU) ({ frames := 6, cells := 0, slots := 0, locals := 193 } : Room) 0 0 E [.ref m, .int x1, .int x2, .int x3] (mw E m r o A) (fun v w => v = res.1 ∧ w = mw E m r o (gu A 1 res.2)) := by
  refine g_met_i (by decide +kernel) (Nat.le_of_ble_eq_true rfl) (fun Γ K hn hE hRm _ hret => ?_)
  subst hE
  have hlt : ∀ i, i < 5 → i < g_n Γ := fun i q => by rw [hn]; exact q
  refine g_ws (ws' := mw (g_E Γ) m r o (gu A 1 (A 1))) rfl ?_
  refine g_sub (L' := [(0, .ref m), (1, .int x1), (2, .int x2), (3, .int x3)]) [0, 1, 2, 3] rfl ?_
  exact wX12_book K hlt hRm hret (A 1) x1 x2 x3 h

set_option maxHeartbeats 4000000 in
set_option maxRecDepth 100000 in
theorem wX12_clear {Γ : gT} {m : Nat} {r : Nat → Nat} {o : Nat → Int32} {A : Nat → Nat → Int32} (K : gOK Γ cX12_clear gU RX12) (hlt : ∀ i, i < 2 → i < g_n Γ) (hRm : g_R Γ = ({ frames := 4, cells := 0, slots := 0, locals := 150 } : Room)) {res : Int32 × ((Nat → Int32))} (hret : ∀ (pc : Nat) (L : List (Nat × Value)) (v : Int32) (w : va_W), decode cX12_clear pc = .ok (.ireturn, 1) → narrow .int (.int v) = .int v → (v = res.1 ∧ w = mw (g_E Γ) m r o (gu A 1 res.2)) → gGO Γ 0 0 pc L [.int v] w) (a1 : (Nat → Int32)) (h : pX12_clear a1 = some res) : gGO Γ 0 0 0 [(0, .ref m)] [] (mw (g_E Γ) m r o (gu A 1 a1)) := by
    unfold pX12_clear at h
    refine g_aload_n K dX12_clear_0 rfl 0 rfl ?_
    refine mg_1 K hin_X12 (u_980) dX12_clear_1 ?_
    refine g_bipush (v := 54) K dX12_clear_4 (by decide) ?_
    obtain ⟨b_1, h⟩ := gi_none h
    refine g_iald (f := a1) K 1 rfl (ginb_in b_1) dX12_clear_6 ?_
    obtain ⟨v_2, ev_2, h⟩ := gi_nm h
    refine g_topi ev_2 ?_
    refine g_istore_n (L' := [(1, .int v_2), (0, .ref m)]) K dX12_clear_7 rfl (hlt _ (by decide)) rfl ?_
    refine g_aload_n K dX12_clear_8 rfl 1 rfl ?_
    refine mg_1 K hin_X12 (u_980) dX12_clear_9 ?_
    refine g_bipush (v := 54) K dX12_clear_12 (by decide) ?_
    refine g_iconst (v := 0) K dX12_clear_14 (by decide) ?_
    obtain ⟨b_3, h⟩ := gi_none h
    obtain ⟨f_4, ef_4, h⟩ := gi_nm h
    refine g_iast (f := a1) (ws' := mw (g_E Γ) m r o (gu A 1 f_4)) K 1 rfl (ginb_in b_3) dX12_clear_15 (by rw [ef_4]; rfl) ?_
    refine g_iload_n K dX12_clear_16 rfl 0 rfl ?_
    obtain rfl := Option.some.inj h
    exact hret _ _ _ _ dX12_clear_17 rfl ⟨rfl, rfl⟩

set_option maxRecDepth 100000 in
theorem ctX12_clear {E : gE} {m : Nat} {r : Nat → Nat} (o : Nat → Int32) (A : Nat → Nat → Int32) {res : Int32 × ((Nat → Int32))} (h : pX12_clear (A 1) = some res) : gMi yX12_clear (.code yX12_clear cX12_clear 2 (some .int) :: gU) ({ frames := 4, cells := 0, slots := 0, locals := 150 } : Room) 0 0 E [.ref m] (mw E m r o A) (fun v w => v = res.1 ∧ w = mw E m r o (gu A 1 res.2)) := by
  refine g_met_i (by decide +kernel) (Nat.le_of_ble_eq_true rfl) (fun Γ K hn hE hRm _ hret => ?_)
  subst hE
  have hlt : ∀ i, i < 2 → i < g_n Γ := fun i q => by rw [hn]; exact q
  refine g_ws (ws' := mw (g_E Γ) m r o (gu A 1 (A 1))) rfl ?_
  refine g_sub (L' := [(0, .ref m)]) [0] rfl ?_
  exact wX12_clear K hlt hRm hret (A 1) h

set_option maxHeartbeats 4000000 in
set_option maxRecDepth 100000 in
theorem wX12_firstRow_2 {Γ : gT} {m : Nat} {r : Nat → Nat} {o : Nat → Int32} {A : Nat → Nat → Int32} (K : gOK Γ cX12_firstRow gU RX12) (hlt : ∀ i, i < 4 → i < g_n Γ) (hRm : g_R Γ = ({ frames := 4, cells := 0, slots := 0, locals := 150 } : Room)) {res : Int32} (hret : ∀ (pc : Nat) (L : List (Nat × Value)) (v : Int32) (w : va_W), decode cX12_firstRow pc = .ok (.ireturn, 1) → narrow .int (.int v) = .int v → (v = res ∧ w = mw (g_E Γ) m r o A) → gGO Γ 0 0 pc L [.int v] w) : ∀ (n : Nat) (x1 : Int32) (x2 : Int32) (x3 : Int32), pX12_firstRow_2 (A 1) n x1 x2 x3 = some res → gGO Γ 0 0 2 [(0, .ref m), (1, .int x1), (2, .int x2), (3, .int x3)] [] (mw (g_E Γ) m r o A) := by
  intro n
  induction n with
  | zero => intro _ _ _ h; cases h
  | succ n ih =>
    intro x1 x2 x3 h
    simp only [pX12_firstRow_2] at h
    refine g_iload_n K dX12_firstRow_2 rfl 3 rfl ?_
    refine g_aload_n K dX12_firstRow_3 rfl 0 rfl ?_
    refine mg_1 K hin_X12 (u_980) dX12_firstRow_4 ?_
    refine g_bipush (v := 54) K dX12_firstRow_7 (by decide) ?_
    obtain ⟨b_1, h⟩ := gi_none h
    refine g_iald (f := (A 1)) K 1 rfl (ginb_in b_1) dX12_firstRow_9 ?_
    obtain ⟨ht9, hf9⟩ := gi_br h; clear h
    refine g_icmp_ge (tgt := 47) K dX12_firstRow_10 (by decide) (fun qh => ?_) (fun qh => ?_)
    · have h := ht9 qh; clear ht9 hf9
      refine g_iconst (v := (-1)) K dX12_firstRow_47 (by decide) ?_
      obtain rfl := Option.some.inj h
      exact hret _ _ _ _ dX12_firstRow_48 rfl ⟨rfl, rfl⟩
    · have h := hf9 qh; clear ht9 hf9
      refine g_aload_n K dX12_firstRow_13 rfl 0 rfl ?_
      refine mg_1 K hin_X12 (u_980) dX12_firstRow_14 ?_
      refine g_bipush (v := 92) K dX12_firstRow_17 (by decide) ?_
      refine g_iload_n K dX12_firstRow_19 rfl 3 rfl ?_
      refine g_iadd K dX12_firstRow_20 ?_
      obtain ⟨b_2, h⟩ := gi_none h
      refine g_iald (f := (A 1)) K 1 rfl (ginb_in b_2) dX12_firstRow_21 ?_
      refine g_iload_n K dX12_firstRow_22 rfl 1 rfl ?_
      obtain ⟨ht9, hf9⟩ := gi_br h; clear h
      refine g_icmp_ne (tgt := 41) K dX12_firstRow_23 (by decide) (fun qh => ?_) (fun qh => ?_)
      · have h := hf9 qh; clear ht9 hf9
        refine g_iinc (v := (x3 + 1)) (L' := [(3, .int (x3 + 1)), (0, .ref m), (1, .int x1), (2, .int x2)]) K dX12_firstRow_41 3 rfl rfl (hlt _ (by decide)) rfl ?_
        refine g_goto (tgt := 2) K dX12_firstRow_44 (by decide) ?_
        refine g_sub (L' := [(0, .ref m), (1, .int x1), (2, .int x2), (3, .int (x3 + 1))]) [1, 2, 3, 0] rfl ?_
        exact ih x1 x2 (x3 + 1) h
      · have h := ht9 qh; clear ht9 hf9
        refine g_aload_n K dX12_firstRow_26 rfl 0 rfl ?_
        refine mg_1 K hin_X12 (u_980) dX12_firstRow_27 ?_
        refine g_bipush (v := 72) K dX12_firstRow_30 (by decide) ?_
        refine g_iload_n K dX12_firstRow_32 rfl 3 rfl ?_
        refine g_iadd K dX12_firstRow_33 ?_
        obtain ⟨b_3, h⟩ := gi_none h
        refine g_iald (f := (A 1)) K 1 rfl (ginb_in b_3) dX12_firstRow_34 ?_
        refine g_iload_n K dX12_firstRow_35 rfl 2 rfl ?_
        obtain ⟨ht9, hf9⟩ := gi_br h; clear h
        refine g_icmp_ne (tgt := 41) K dX12_firstRow_36 (by decide) (fun qh => ?_) (fun qh => ?_)
        · have h := hf9 qh; clear ht9 hf9
          refine g_iinc (v := (x3 + 1)) (L' := [(3, .int (x3 + 1)), (0, .ref m), (1, .int x1), (2, .int x2)]) K dX12_firstRow_41 3 rfl rfl (hlt _ (by decide)) rfl ?_
          refine g_goto (tgt := 2) K dX12_firstRow_44 (by decide) ?_
          refine g_sub (L' := [(0, .ref m), (1, .int x1), (2, .int x2), (3, .int (x3 + 1))]) [1, 2, 3, 0] rfl ?_
          exact ih x1 x2 (x3 + 1) h
        · have h := ht9 qh; clear ht9 hf9
          refine g_iload_n K dX12_firstRow_39 rfl 3 rfl ?_
          obtain rfl := Option.some.inj h
          exact hret _ _ _ _ dX12_firstRow_40 rfl ⟨rfl, rfl⟩

set_option maxHeartbeats 4000000 in
set_option maxRecDepth 100000 in
theorem wX12_firstRow {Γ : gT} {m : Nat} {r : Nat → Nat} {o : Nat → Int32} {A : Nat → Nat → Int32} (K : gOK Γ cX12_firstRow gU RX12) (hlt : ∀ i, i < 4 → i < g_n Γ) (hRm : g_R Γ = ({ frames := 4, cells := 0, slots := 0, locals := 150 } : Room)) {res : Int32} (hret : ∀ (pc : Nat) (L : List (Nat × Value)) (v : Int32) (w : va_W), decode cX12_firstRow pc = .ok (.ireturn, 1) → narrow .int (.int v) = .int v → (v = res ∧ w = mw (g_E Γ) m r o A) → gGO Γ 0 0 pc L [.int v] w) (x1 : Int32) (x2 : Int32) (h : pX12_firstRow (A 1) x1 x2 = some res) : gGO Γ 0 0 0 [(0, .ref m), (1, .int x1), (2, .int x2)] [] (mw (g_E Γ) m r o A) := by
    unfold pX12_firstRow at h
    refine g_iconst (v := 0) K dX12_firstRow_0 (by decide) ?_
    refine g_istore_n (L' := [(3, .int 0), (0, .ref m), (1, .int x1), (2, .int x2)]) K dX12_firstRow_1 rfl (hlt _ (by decide)) rfl ?_
    refine g_sub (L' := [(0, .ref m), (1, .int x1), (2, .int x2), (3, .int 0)]) [1, 2, 3, 0] rfl ?_
    exact wX12_firstRow_2 K hlt hRm hret 1000 x1 x2 0 h

set_option maxRecDepth 100000 in
theorem ctX12_firstRow {E : gE} {m : Nat} {r : Nat → Nat} (o : Nat → Int32) (A : Nat → Nat → Int32) (x1 : Int32) (x2 : Int32) {res : Int32} (h : pX12_firstRow (A 1) x1 x2 = some res) : gMi yX12_firstRow (.code yX12_firstRow cX12_firstRow 4 (some .int) :: gU) ({ frames := 4, cells := 0, slots := 0, locals := 150 } : Room) 0 0 E [.ref m, .int x1, .int x2] (mw E m r o A) (fun v w => v = res ∧ w = mw E m r o A) := by
  refine g_met_i (by decide +kernel) (Nat.le_of_ble_eq_true rfl) (fun Γ K hn hE hRm _ hret => ?_)
  subst hE
  have hlt : ∀ i, i < 4 → i < g_n Γ := fun i q => by rw [hn]; exact q
  refine g_sub (L' := [(0, .ref m), (1, .int x1), (2, .int x2)]) [0, 1, 2] rfl ?_
  exact wX12_firstRow K hlt hRm hret x1 x2 h

set_option maxHeartbeats 4000000 in
set_option maxRecDepth 100000 in
theorem wX12_haveBoth_5 {Γ : gT} {m : Nat} {r : Nat → Nat} {o : Nat → Int32} {A : Nat → Nat → Int32} (K : gOK Γ cX12_haveBoth gU RX12) (hlt : ∀ i, i < 5 → i < g_n Γ) (hRm : g_R Γ = ({ frames := 5, cells := 0, slots := 0, locals := 173 } : Room)) {res : Int32} (hret : ∀ (pc : Nat) (L : List (Nat × Value)) (v : Int32) (w : va_W), decode cX12_haveBoth pc = .ok (.ireturn, 1) → narrow .boolean (.int v) = .int v → (v = res ∧ w = mw (g_E Γ) m r o A) → gGO Γ 0 0 pc L [.int v] w) : ∀ (n : Nat) (x1 : Int32) (x2 : Int32) (x3 : Int32) (x4 : Int32), pX12_haveBoth_5 (A 1) n x1 x2 x3 x4 = some res → gGO Γ 0 0 5 [(0, .ref m), (1, .int x1), (2, .int x2), (3, .int x3), (4, .int x4)] [] (mw (g_E Γ) m r o A) := by
  intro n
  induction n with
  | zero => intro _ _ _ _ h; cases h
  | succ n ih =>
    intro x1 x2 x3 x4 h
    simp only [pX12_haveBoth_5] at h
    refine g_iload K dX12_haveBoth_5 4 rfl ?_
    refine g_aload_n K dX12_haveBoth_7 rfl 0 rfl ?_
    refine mg_1 K hin_X12 (u_980) dX12_haveBoth_8 ?_
    refine g_bipush (v := 51) K dX12_haveBoth_11 (by decide) ?_
    obtain ⟨b_1, h⟩ := gi_none h
    refine g_iald (f := (A 1)) K 1 rfl (ginb_in b_1) dX12_haveBoth_13 ?_
    obtain ⟨ht9, hf9⟩ := gi_br h; clear h
    refine g_icmp_ge (tgt := 55) K dX12_haveBoth_14 (by decide) (fun qh => ?_) (fun qh => ?_)
    · have h := ht9 qh; clear ht9 hf9
      refine g_iload_n K dX12_haveBoth_55 rfl 3 rfl ?_
      obtain ⟨c_2, h⟩ := gi_none h
      obtain rfl := Option.some.inj h
      exact hret _ _ _ _ dX12_haveBoth_56 (gbool_nar c_2) ⟨rfl, rfl⟩
    · have h := hf9 qh; clear ht9 hf9
      refine g_iload_n K dX12_haveBoth_17 rfl 3 rfl ?_
      obtain ⟨ht9, hf9⟩ := gi_br h; clear h
      refine g_if_ne (tgt := 43) K dX12_haveBoth_18 (by decide) (fun qh => ?_) (fun qh => ?_)
      · have h := hf9 qh; clear ht9 hf9
        refine g_iconst (v := 1) K dX12_haveBoth_43 (by decide) ?_
        refine g_goto (tgt := 48) K dX12_haveBoth_44 (by decide) ?_
        refine g_istore_n (L' := [(3, .int 1), (0, .ref m), (1, .int x1), (2, .int x2), (4, .int x4)]) K dX12_haveBoth_48 rfl (hlt _ (by decide)) rfl ?_
        refine g_iinc (v := (x4 + 1)) (L' := [(4, .int (x4 + 1)), (3, .int 1), (0, .ref m), (1, .int x1), (2, .int x2)]) K dX12_haveBoth_49 4 rfl rfl (hlt _ (by decide)) rfl ?_
        refine g_goto (tgt := 5) K dX12_haveBoth_52 (by decide) ?_
        refine g_sub (L' := [(0, .ref m), (1, .int x1), (2, .int x2), (3, .int 1), (4, .int (x4 + 1))]) [2, 3, 4, 1, 0] rfl ?_
        exact ih x1 x2 1 (x4 + 1) h
      · have h := ht9 qh; clear ht9 hf9
        refine g_aload_n K dX12_haveBoth_21 rfl 0 rfl ?_
        refine g_iload_n K dX12_haveBoth_22 rfl 1 rfl ?_
        refine g_iload K dX12_haveBoth_23 4 rfl ?_
        obtain ⟨z_3, hz_3, h⟩ := gi_bd h
        refine g_callVi (As := [.int x1, .int x4]) (bytes := cX12_firstRow) (maxL := 4) (ret := (some .int)) K (ctX12_firstRow o A x1 x4 (res := z_3) hz_3) gc_V_RX12_232_X12_firstRow rfl qv_X12_firstRow 0 rfl rfl rfl hRm rfl rfl rfl (by decide) (Nat.le_of_ble_eq_true rfl) (by decide) dX12_haveBoth_25 (fun v w hw => ?_)
        obtain ⟨hv9, rfl⟩ := hw; have hv9 := hv9.symm; subst hv9
        refine g_iconst (v := (-1)) K dX12_haveBoth_28 (by decide) ?_
        obtain ⟨ht9, hf9⟩ := gi_br h; clear h
        refine g_icmp_eq (tgt := 47) K dX12_haveBoth_29 (by decide) (fun qh => ?_) (fun qh => ?_)
        · have h := ht9 qh; clear ht9 hf9
          refine g_iconst (v := 0) K dX12_haveBoth_47 (by decide) ?_
          refine g_istore_n (L' := [(3, .int 0), (0, .ref m), (1, .int x1), (2, .int x2), (4, .int x4)]) K dX12_haveBoth_48 rfl (hlt _ (by decide)) rfl ?_
          refine g_iinc (v := (x4 + 1)) (L' := [(4, .int (x4 + 1)), (3, .int 0), (0, .ref m), (1, .int x1), (2, .int x2)]) K dX12_haveBoth_49 4 rfl rfl (hlt _ (by decide)) rfl ?_
          refine g_goto (tgt := 5) K dX12_haveBoth_52 (by decide) ?_
          refine g_sub (L' := [(0, .ref m), (1, .int x1), (2, .int x2), (3, .int 0), (4, .int (x4 + 1))]) [2, 3, 4, 1, 0] rfl ?_
          exact ih x1 x2 0 (x4 + 1) h
        · have h := hf9 qh; clear ht9 hf9
          refine g_aload_n K dX12_haveBoth_32 rfl 0 rfl ?_
          refine g_iload_n K dX12_haveBoth_33 rfl 2 rfl ?_
          refine g_iload K dX12_haveBoth_34 4 rfl ?_
          obtain ⟨z_4, hz_4, h⟩ := gi_bd h
          refine g_callVi (As := [.int x2, .int x4]) (bytes := cX12_firstRow) (maxL := 4) (ret := (some .int)) K (ctX12_firstRow o A x2 x4 (res := z_4) hz_4) gc_V_RX12_232_X12_firstRow rfl qv_X12_firstRow 0 rfl rfl rfl hRm rfl rfl rfl (by decide) (Nat.le_of_ble_eq_true rfl) (by decide) dX12_haveBoth_36 (fun v w hw => ?_)
          obtain ⟨hv9, rfl⟩ := hw; have hv9 := hv9.symm; subst hv9
          refine g_iconst (v := (-1)) K dX12_haveBoth_39 (by decide) ?_
          obtain ⟨ht9, hf9⟩ := gi_br h; clear h
          refine g_icmp_eq (tgt := 47) K dX12_haveBoth_40 (by decide) (fun qh => ?_) (fun qh => ?_)
          · have h := ht9 qh; clear ht9 hf9
            refine g_iconst (v := 0) K dX12_haveBoth_47 (by decide) ?_
            refine g_istore_n (L' := [(3, .int 0), (0, .ref m), (1, .int x1), (2, .int x2), (4, .int x4)]) K dX12_haveBoth_48 rfl (hlt _ (by decide)) rfl ?_
            refine g_iinc (v := (x4 + 1)) (L' := [(4, .int (x4 + 1)), (3, .int 0), (0, .ref m), (1, .int x1), (2, .int x2)]) K dX12_haveBoth_49 4 rfl rfl (hlt _ (by decide)) rfl ?_
            refine g_goto (tgt := 5) K dX12_haveBoth_52 (by decide) ?_
            refine g_sub (L' := [(0, .ref m), (1, .int x1), (2, .int x2), (3, .int 0), (4, .int (x4 + 1))]) [2, 3, 4, 1, 0] rfl ?_
            exact ih x1 x2 0 (x4 + 1) h
          · have h := hf9 qh; clear ht9 hf9
            refine g_iconst (v := 1) K dX12_haveBoth_43 (by decide) ?_
            refine g_goto (tgt := 48) K dX12_haveBoth_44 (by decide) ?_
            refine g_istore_n (L' := [(3, .int 1), (0, .ref m), (1, .int x1), (2, .int x2), (4, .int x4)]) K dX12_haveBoth_48 rfl (hlt _ (by decide)) rfl ?_
            refine g_iinc (v := (x4 + 1)) (L' := [(4, .int (x4 + 1)), (3, .int 1), (0, .ref m), (1, .int x1), (2, .int x2)]) K dX12_haveBoth_49 4 rfl rfl (hlt _ (by decide)) rfl ?_
            refine g_goto (tgt := 5) K dX12_haveBoth_52 (by decide) ?_
            refine g_sub (L' := [(0, .ref m), (1, .int x1), (2, .int x2), (3, .int 1), (4, .int (x4 + 1))]) [2, 3, 4, 1, 0] rfl ?_
            exact ih x1 x2 1 (x4 + 1) h

set_option maxHeartbeats 4000000 in
set_option maxRecDepth 100000 in
theorem wX12_haveBoth {Γ : gT} {m : Nat} {r : Nat → Nat} {o : Nat → Int32} {A : Nat → Nat → Int32} (K : gOK Γ cX12_haveBoth gU RX12) (hlt : ∀ i, i < 5 → i < g_n Γ) (hRm : g_R Γ = ({ frames := 5, cells := 0, slots := 0, locals := 173 } : Room)) {res : Int32} (hret : ∀ (pc : Nat) (L : List (Nat × Value)) (v : Int32) (w : va_W), decode cX12_haveBoth pc = .ok (.ireturn, 1) → narrow .boolean (.int v) = .int v → (v = res ∧ w = mw (g_E Γ) m r o A) → gGO Γ 0 0 pc L [.int v] w) (x1 : Int32) (x2 : Int32) (h : pX12_haveBoth (A 1) x1 x2 = some res) : gGO Γ 0 0 0 [(0, .ref m), (1, .int x1), (2, .int x2)] [] (mw (g_E Γ) m r o A) := by
    unfold pX12_haveBoth at h
    refine g_iconst (v := 0) K dX12_haveBoth_0 (by decide) ?_
    refine g_istore_n (L' := [(3, .int 0), (0, .ref m), (1, .int x1), (2, .int x2)]) K dX12_haveBoth_1 rfl (hlt _ (by decide)) rfl ?_
    refine g_iconst (v := 0) K dX12_haveBoth_2 (by decide) ?_
    refine g_istore (L' := [(4, .int 0), (3, .int 0), (0, .ref m), (1, .int x1), (2, .int x2)]) K dX12_haveBoth_3 (hlt _ (by decide)) rfl ?_
    refine g_sub (L' := [(0, .ref m), (1, .int x1), (2, .int x2), (3, .int 0), (4, .int 0)]) [2, 3, 4, 1, 0] rfl ?_
    exact wX12_haveBoth_5 K hlt hRm hret 1000 x1 x2 0 0 h

set_option maxRecDepth 100000 in
theorem ctX12_haveBoth {E : gE} {m : Nat} {r : Nat → Nat} (o : Nat → Int32) (A : Nat → Nat → Int32) (x1 : Int32) (x2 : Int32) {res : Int32} (h : pX12_haveBoth (A 1) x1 x2 = some res) : gMi yX12_haveBoth (.code yX12_haveBoth cX12_haveBoth 5 (some .boolean) :: gU) ({ frames := 5, cells := 0, slots := 0, locals := 173 } : Room) 0 0 E [.ref m, .int x1, .int x2] (mw E m r o A) (fun v w => v = res ∧ w = mw E m r o A) := by
  refine g_met_i (by decide +kernel) (Nat.le_of_ble_eq_true rfl) (fun Γ K hn hE hRm _ hret => ?_)
  subst hE
  have hlt : ∀ i, i < 5 → i < g_n Γ := fun i q => by rw [hn]; exact q
  refine g_sub (L' := [(0, .ref m), (1, .int x1), (2, .int x2)]) [0, 1, 2] rfl ?_
  exact wX12_haveBoth K hlt hRm hret x1 x2 h

set_option maxHeartbeats 4000000 in
set_option maxRecDepth 100000 in
theorem wX12_netOf_29 {Γ : gT} {m : Nat} {r : Nat → Nat} {o : Nat → Int32} {A : Nat → Nat → Int32} (K : gOK Γ cX12_netOf gU RX12) (hlt : ∀ i, i < 6 → i < g_n Γ) (hRm : g_R Γ = ({ frames := 6, cells := 0, slots := 0, locals := 197 } : Room)) {res : Int32} (hret : ∀ (pc : Nat) (L : List (Nat × Value)) (v : Int32) (w : va_W), decode cX12_netOf pc = .ok (.ireturn, 1) → narrow .int (.int v) = .int v → (v = res ∧ w = mw (g_E Γ) m r o A) → gGO Γ 0 0 pc L [.int v] w) {k6 : Int32 → Int32 → Option (Int32)} (hk6 : ∀ (x2 : Int32) (x3 : Int32), k6 x2 x3 = some res → gGO Γ 0 0 6 [(0, .ref m), (2, .int x2), (3, .int x3)] [] (mw (g_E Γ) m r o A)) {k14 : Int32 → Int32 → Int32 → Option (Int32)} (hk14 : ∀ (x2 : Int32) (x3 : Int32) (x4 : Int32), k14 x2 x3 x4 = some res → gGO Γ 0 0 14 [(0, .ref m), (2, .int x2), (3, .int x3), (4, .int x4)] [] (mw (g_E Γ) m r o A)) : ∀ (n : Nat) (x2 : Int32) (x3 : Int32) (x4 : Int32) (x5 : Int32), pX12_netOf_29 k6 k14 (A 1) n x2 x3 x4 x5 = some res → gGO Γ 0 0 29 [(0, .ref m), (2, .int x2), (3, .int x3), (4, .int x4), (5, .int x5)] [] (mw (g_E Γ) m r o A) := by
  intro n
  induction n with
  | zero => intro _ _ _ _ h; cases h
  | succ n ih =>
    intro x2 x3 x4 x5 h
    simp only [pX12_netOf_29] at h
    refine g_iload K dX12_netOf_29 4 rfl ?_
    refine g_aload_n K dX12_netOf_31 rfl 0 rfl ?_
    refine mg_1 K hin_X12 (u_980) dX12_netOf_32 ?_
    refine g_bipush (v := 52) K dX12_netOf_35 (by decide) ?_
    obtain ⟨b_1, h⟩ := gi_none h
    refine g_iald (f := (A 1)) K 1 rfl (ginb_in b_1) dX12_netOf_37 ?_
    obtain ⟨ht9, hf9⟩ := gi_br h; clear h
    refine g_icmp_ge (tgt := 79) K dX12_netOf_38 (by decide) (fun qh => ?_) (fun qh => ?_)
    · have h := ht9 qh; clear ht9 hf9
      refine g_iinc (v := (x4 + 1)) (L' := [(4, .int (x4 + 1)), (0, .ref m), (2, .int x2), (3, .int x3), (5, .int x5)]) K dX12_netOf_79 3 rfl rfl (hlt _ (by decide)) rfl ?_
      refine g_goto (tgt := 14) K dX12_netOf_82 (by decide) ?_
      refine g_sub (L' := [(0, .ref m), (2, .int x2), (3, .int x3), (4, .int (x4 + 1))]) [1, 2, 3, 0] rfl ?_
      exact hk14 x2 x3 (x4 + 1) h
    · have h := hf9 qh; clear ht9 hf9
      refine g_iload_n K dX12_netOf_41 rfl 1 rfl ?_
      refine g_iload_n K dX12_netOf_42 rfl 1 rfl ?_
      refine g_iload K dX12_netOf_43 3 rfl ?_
      refine g_ishr K dX12_netOf_45 ?_
      refine g_iconst (v := 1) K dX12_netOf_46 (by decide) ?_
      refine g_iand K dX12_netOf_47 ?_
      refine g_iconst (v := 1) K dX12_netOf_48 (by decide) ?_
      obtain ⟨ht9, hf9⟩ := gi_br h; clear h
      refine g_icmp_ne (tgt := 70) K dX12_netOf_49 (by decide) (fun qh => ?_) (fun qh => ?_)
      · have h := hf9 qh; clear ht9 hf9
        refine g_iconst (v := 0) K dX12_netOf_70 (by decide) ?_
        refine g_ior K dX12_netOf_71 ?_
        obtain ⟨v_2, ev_2, h⟩ := gi_nm h
        refine g_topi ev_2 ?_
        refine g_istore_n (L' := [(2, .int v_2), (0, .ref m), (3, .int x3), (4, .int x4), (5, .int x5)]) K dX12_netOf_72 rfl (hlt _ (by decide)) rfl ?_
        refine g_iinc (v := (x5 + 1)) (L' := [(5, .int (x5 + 1)), (2, .int v_2), (0, .ref m), (3, .int x3), (4, .int x4)]) K dX12_netOf_73 4 rfl rfl (hlt _ (by decide)) rfl ?_
        refine g_goto (tgt := 29) K dX12_netOf_76 (by decide) ?_
        refine g_sub (L' := [(0, .ref m), (2, .int v_2), (3, .int x3), (4, .int x4), (5, .int (x5 + 1))]) [2, 1, 3, 4, 0] rfl ?_
        exact ih v_2 x3 x4 (x5 + 1) h
      · have h := ht9 qh; clear ht9 hf9
        refine g_aload_n K dX12_netOf_52 rfl 0 rfl ?_
        refine g_iload K dX12_netOf_53 3 rfl ?_
        refine g_iload K dX12_netOf_55 4 rfl ?_
        obtain ⟨z_3, hz_3, h⟩ := gi_bd h
        refine g_callVi (As := [.int x4, .int x5]) (bytes := cX12_haveBoth) (maxL := 5) (ret := (some .boolean)) K (ctX12_haveBoth o A x4 x5 (res := z_3) hz_3) gc_V_RX12_235_X12_haveBoth rfl qv_X12_haveBoth 0 rfl rfl rfl hRm rfl rfl rfl (by decide) (Nat.le_of_ble_eq_true rfl) (by decide) dX12_netOf_57 (fun v w hw => ?_)
        obtain ⟨hv9, rfl⟩ := hw; have hv9 := hv9.symm; subst hv9
        obtain ⟨ht9, hf9⟩ := gi_br h; clear h
        refine g_if_eq (tgt := 70) K dX12_netOf_60 (by decide) (fun qh => ?_) (fun qh => ?_)
        · have h := ht9 qh; clear ht9 hf9
          refine g_iconst (v := 0) K dX12_netOf_70 (by decide) ?_
          refine g_ior K dX12_netOf_71 ?_
          obtain ⟨v_4, ev_4, h⟩ := gi_nm h
          refine g_topi ev_4 ?_
          refine g_istore_n (L' := [(2, .int v_4), (0, .ref m), (3, .int x3), (4, .int x4), (5, .int x5)]) K dX12_netOf_72 rfl (hlt _ (by decide)) rfl ?_
          refine g_iinc (v := (x5 + 1)) (L' := [(5, .int (x5 + 1)), (2, .int v_4), (0, .ref m), (3, .int x3), (4, .int x4)]) K dX12_netOf_73 4 rfl rfl (hlt _ (by decide)) rfl ?_
          refine g_goto (tgt := 29) K dX12_netOf_76 (by decide) ?_
          refine g_sub (L' := [(0, .ref m), (2, .int v_4), (3, .int x3), (4, .int x4), (5, .int (x5 + 1))]) [2, 1, 3, 4, 0] rfl ?_
          exact ih v_4 x3 x4 (x5 + 1) h
        · have h := hf9 qh; clear ht9 hf9
          refine g_iconst (v := 1) K dX12_netOf_63 (by decide) ?_
          refine g_iload K dX12_netOf_64 4 rfl ?_
          refine g_ishl K dX12_netOf_66 ?_
          refine g_goto (tgt := 71) K dX12_netOf_67 (by decide) ?_
          refine g_ior K dX12_netOf_71 ?_
          obtain ⟨v_5, ev_5, h⟩ := gi_nm h
          refine g_topi ev_5 ?_
          refine g_istore_n (L' := [(2, .int v_5), (0, .ref m), (3, .int x3), (4, .int x4), (5, .int x5)]) K dX12_netOf_72 rfl (hlt _ (by decide)) rfl ?_
          refine g_iinc (v := (x5 + 1)) (L' := [(5, .int (x5 + 1)), (2, .int v_5), (0, .ref m), (3, .int x3), (4, .int x4)]) K dX12_netOf_73 4 rfl rfl (hlt _ (by decide)) rfl ?_
          refine g_goto (tgt := 29) K dX12_netOf_76 (by decide) ?_
          refine g_sub (L' := [(0, .ref m), (2, .int v_5), (3, .int x3), (4, .int x4), (5, .int (x5 + 1))]) [2, 1, 3, 4, 0] rfl ?_
          exact ih v_5 x3 x4 (x5 + 1) h

set_option maxHeartbeats 4000000 in
set_option maxRecDepth 100000 in
theorem wX12_netOf_14 {Γ : gT} {m : Nat} {r : Nat → Nat} {o : Nat → Int32} {A : Nat → Nat → Int32} (K : gOK Γ cX12_netOf gU RX12) (hlt : ∀ i, i < 6 → i < g_n Γ) (hRm : g_R Γ = ({ frames := 6, cells := 0, slots := 0, locals := 197 } : Room)) {res : Int32} (hret : ∀ (pc : Nat) (L : List (Nat × Value)) (v : Int32) (w : va_W), decode cX12_netOf pc = .ok (.ireturn, 1) → narrow .int (.int v) = .int v → (v = res ∧ w = mw (g_E Γ) m r o A) → gGO Γ 0 0 pc L [.int v] w) {k6 : Int32 → Int32 → Option (Int32)} (hk6 : ∀ (x2 : Int32) (x3 : Int32), k6 x2 x3 = some res → gGO Γ 0 0 6 [(0, .ref m), (2, .int x2), (3, .int x3)] [] (mw (g_E Γ) m r o A)) : ∀ (n : Nat) (x2 : Int32) (x3 : Int32) (x4 : Int32), pX12_netOf_14 k6 (A 1) n x2 x3 x4 = some res → gGO Γ 0 0 14 [(0, .ref m), (2, .int x2), (3, .int x3), (4, .int x4)] [] (mw (g_E Γ) m r o A) := by
  intro n
  induction n with
  | zero => intro _ _ _ h; cases h
  | succ n ih =>
    intro x2 x3 x4 h
    simp only [pX12_netOf_14] at h
    refine g_iload K dX12_netOf_14 3 rfl ?_
    refine g_aload_n K dX12_netOf_16 rfl 0 rfl ?_
    refine mg_1 K hin_X12 (u_980) dX12_netOf_17 ?_
    refine g_bipush (v := 52) K dX12_netOf_20 (by decide) ?_
    obtain ⟨b_1, h⟩ := gi_none h
    refine g_iald (f := (A 1)) K 1 rfl (ginb_in b_1) dX12_netOf_22 ?_
    obtain ⟨ht9, hf9⟩ := gi_br h; clear h
    refine g_icmp_ge (tgt := 85) K dX12_netOf_23 (by decide) (fun qh => ?_) (fun qh => ?_)
    · have h := ht9 qh; clear ht9 hf9
      refine g_iinc (v := (x3 + 1)) (L' := [(3, .int (x3 + 1)), (0, .ref m), (2, .int x2), (4, .int x4)]) K dX12_netOf_85 2 rfl rfl (hlt _ (by decide)) rfl ?_
      refine g_goto (tgt := 6) K dX12_netOf_88 (by decide) ?_
      refine g_sub (L' := [(0, .ref m), (2, .int x2), (3, .int (x3 + 1))]) [1, 2, 0] rfl ?_
      exact hk6 x2 (x3 + 1) h
    · have h := hf9 qh; clear ht9 hf9
      refine g_iconst (v := 0) K dX12_netOf_26 (by decide) ?_
      refine g_istore (L' := [(5, .int 0), (0, .ref m), (2, .int x2), (3, .int x3), (4, .int x4)]) K dX12_netOf_27 (hlt _ (by decide)) rfl ?_
      refine g_sub (L' := [(0, .ref m), (2, .int x2), (3, .int x3), (4, .int x4), (5, .int 0)]) [1, 2, 3, 4, 0] rfl ?_
      exact wX12_netOf_29 K hlt hRm hret hk6 ih 1000 x2 x3 x4 0 h

set_option maxHeartbeats 4000000 in
set_option maxRecDepth 100000 in
theorem wX12_netOf_6 {Γ : gT} {m : Nat} {r : Nat → Nat} {o : Nat → Int32} {A : Nat → Nat → Int32} (K : gOK Γ cX12_netOf gU RX12) (hlt : ∀ i, i < 6 → i < g_n Γ) (hRm : g_R Γ = ({ frames := 6, cells := 0, slots := 0, locals := 197 } : Room)) {res : Int32} (hret : ∀ (pc : Nat) (L : List (Nat × Value)) (v : Int32) (w : va_W), decode cX12_netOf pc = .ok (.ireturn, 1) → narrow .int (.int v) = .int v → (v = res ∧ w = mw (g_E Γ) m r o A) → gGO Γ 0 0 pc L [.int v] w) : ∀ (n : Nat) (x2 : Int32) (x3 : Int32), pX12_netOf_6 (A 1) n x2 x3 = some res → gGO Γ 0 0 6 [(0, .ref m), (2, .int x2), (3, .int x3)] [] (mw (g_E Γ) m r o A) := by
  intro n
  induction n with
  | zero => intro _ _ h; cases h
  | succ n ih =>
    intro x2 x3 h
    simp only [pX12_netOf_6] at h
    refine g_iload_n K dX12_netOf_6 rfl 2 rfl ?_
    refine g_iconst (v := 4) K dX12_netOf_7 (by decide) ?_
    obtain ⟨ht9, hf9⟩ := gi_br h; clear h
    refine g_icmp_ge (tgt := 91) K dX12_netOf_8 (by decide) (fun qh => ?_) (fun qh => ?_)
    · have h := ht9 qh; clear ht9 hf9
      refine g_iload_n K dX12_netOf_91 rfl 1 rfl ?_
      obtain rfl := Option.some.inj h
      exact hret _ _ _ _ dX12_netOf_92 rfl ⟨rfl, rfl⟩
    · have h := hf9 qh; clear ht9 hf9
      refine g_iconst (v := 0) K dX12_netOf_11 (by decide) ?_
      refine g_istore (L' := [(4, .int 0), (0, .ref m), (2, .int x2), (3, .int x3)]) K dX12_netOf_12 (hlt _ (by decide)) rfl ?_
      refine g_sub (L' := [(0, .ref m), (2, .int x2), (3, .int x3), (4, .int 0)]) [1, 2, 3, 0] rfl ?_
      exact wX12_netOf_14 K hlt hRm hret ih 1000 x2 x3 0 h

set_option maxHeartbeats 4000000 in
set_option maxRecDepth 100000 in
theorem wX12_netOf {Γ : gT} {m : Nat} {r : Nat → Nat} {o : Nat → Int32} {A : Nat → Nat → Int32} (K : gOK Γ cX12_netOf gU RX12) (hlt : ∀ i, i < 6 → i < g_n Γ) (hRm : g_R Γ = ({ frames := 6, cells := 0, slots := 0, locals := 197 } : Room)) {res : Int32} (hret : ∀ (pc : Nat) (L : List (Nat × Value)) (v : Int32) (w : va_W), decode cX12_netOf pc = .ok (.ireturn, 1) → narrow .int (.int v) = .int v → (v = res ∧ w = mw (g_E Γ) m r o A) → gGO Γ 0 0 pc L [.int v] w) (x1 : Int32) (h : pX12_netOf (A 1) x1 = some res) : gGO Γ 0 0 0 [(0, .ref m), (1, .int x1)] [] (mw (g_E Γ) m r o A) := by
    unfold pX12_netOf at h
    refine g_iconst (v := 1) K dX12_netOf_0 (by decide) ?_
    refine g_iload_n K dX12_netOf_1 rfl 1 rfl ?_
    refine g_ishl K dX12_netOf_2 ?_
    obtain ⟨v_1, ev_1, h⟩ := gi_nm h
    refine g_topi ev_1 ?_
    refine g_istore_n (L' := [(2, .int v_1), (0, .ref m), (1, .int x1)]) K dX12_netOf_3 rfl (hlt _ (by decide)) rfl ?_
    refine g_iconst (v := 0) K dX12_netOf_4 (by decide) ?_
    refine g_istore_n (L' := [(3, .int 0), (2, .int v_1), (0, .ref m), (1, .int x1)]) K dX12_netOf_5 rfl (hlt _ (by decide)) rfl ?_
    refine g_sub (L' := [(0, .ref m), (2, .int v_1), (3, .int 0)]) [2, 1, 0] rfl ?_
    exact wX12_netOf_6 K hlt hRm hret 1000 v_1 0 h

set_option maxRecDepth 100000 in
theorem ctX12_netOf {E : gE} {m : Nat} {r : Nat → Nat} (o : Nat → Int32) (A : Nat → Nat → Int32) (x1 : Int32) {res : Int32} (h : pX12_netOf (A 1) x1 = some res) : gMi yX12_netOf (.code yX12_netOf cX12_netOf 6 (some .int) :: gU) ({ frames := 6, cells := 0, slots := 0, locals := 197 } : Room) 0 0 E [.ref m, .int x1] (mw E m r o A) (fun v w => v = res ∧ w = mw E m r o A) := by
  refine g_met_i (by decide +kernel) (Nat.le_of_ble_eq_true rfl) (fun Γ K hn hE hRm _ hret => ?_)
  subst hE
  have hlt : ∀ i, i < 6 → i < g_n Γ := fun i q => by rw [hn]; exact q
  refine g_sub (L' := [(0, .ref m), (1, .int x1)]) [0, 1] rfl ?_
  exact wX12_netOf K hlt hRm hret x1 h

set_option maxHeartbeats 4000000 in
set_option maxRecDepth 100000 in
theorem wX12_nets_34 {Γ : gT} {m : Nat} {r : Nat → Nat} {o : Nat → Int32} {A : Nat → Nat → Int32} (K : gOK Γ cX12_nets gU RX12) (hlt : ∀ i, i < 4 → i < g_n Γ) (hRm : g_R Γ = ({ frames := 7, cells := 0, slots := 0, locals := 222 } : Room)) {res : Int32} (hret : ∀ (pc : Nat) (L : List (Nat × Value)) (v : Int32) (w : va_W), decode cX12_nets pc = .ok (.ireturn, 1) → narrow .int (.int v) = .int v → (v = res ∧ w = mw (g_E Γ) m r o A) → gGO Γ 0 0 pc L [.int v] w) : ∀ (n : Nat) (x2 : Int32) (x3 : Int32), pX12_nets_34 (A 1) n x2 x3 = some res → gGO Γ 0 0 34 [(0, .ref m), (2, .int x2), (3, .int x3)] [] (mw (g_E Γ) m r o A) := by
  intro n
  induction n with
  | zero => intro _ _ h; cases h
  | succ n ih =>
    intro x2 x3 h
    simp only [pX12_nets_34] at h
    refine g_iload_n K dX12_nets_34 rfl 2 rfl ?_
    refine g_aload_n K dX12_nets_35 rfl 0 rfl ?_
    refine mg_1 K hin_X12 (u_980) dX12_nets_36 ?_
    refine g_bipush (v := 52) K dX12_nets_39 (by decide) ?_
    obtain ⟨b_1, h⟩ := gi_none h
    refine g_iald (f := (A 1)) K 1 rfl (ginb_in b_1) dX12_nets_41 ?_
    obtain ⟨ht9, hf9⟩ := gi_br h; clear h
    refine g_icmp_ge (tgt := 73) K dX12_nets_42 (by decide) (fun qh => ?_) (fun qh => ?_)
    · have h := ht9 qh; clear ht9 hf9
      refine g_iload_n K dX12_nets_73 rfl 1 rfl ?_
      obtain rfl := Option.some.inj h
      exact hret _ _ _ _ dX12_nets_74 rfl ⟨rfl, rfl⟩
    · have h := hf9 qh; clear ht9 hf9
      refine g_iload_n K dX12_nets_45 rfl 1 rfl ?_
      refine g_aload_n K dX12_nets_46 rfl 0 rfl ?_
      refine g_iload_n K dX12_nets_47 rfl 2 rfl ?_
      obtain ⟨z_2, hz_2, h⟩ := gi_bd h
      refine g_callVi (As := [.int x3]) (bytes := cX12_netOf) (maxL := 6) (ret := (some .int)) K (ctX12_netOf o A x3 (res := z_2) hz_2) gc_V_RX12_239_X12_netOf rfl qv_X12_netOf 0 rfl rfl rfl hRm rfl rfl rfl (by decide) (Nat.le_of_ble_eq_true rfl) (by decide) dX12_nets_48 (fun v w hw => ?_)
      obtain ⟨hv9, rfl⟩ := hw; have hv9 := hv9.symm; subst hv9
      refine g_iconst (v := 1) K dX12_nets_51 (by decide) ?_
      refine g_iload_n K dX12_nets_52 rfl 2 rfl ?_
      refine g_ishl K dX12_nets_53 ?_
      refine g_iconst (v := 1) K dX12_nets_54 (by decide) ?_
      refine g_isub K dX12_nets_55 ?_
      refine g_iand K dX12_nets_56 ?_
      obtain ⟨ht9, hf9⟩ := gi_br h; clear h
      refine g_if_ne (tgt := 64) K dX12_nets_57 (by decide) (fun qh => ?_) (fun qh => ?_)
      · have h := hf9 qh; clear ht9 hf9
        refine g_iconst (v := 0) K dX12_nets_64 (by decide) ?_
        refine g_iadd K dX12_nets_65 ?_
        obtain ⟨v_3, ev_3, h⟩ := gi_nm h
        refine g_topi ev_3 ?_
        refine g_istore_n (L' := [(2, .int v_3), (0, .ref m), (3, .int x3)]) K dX12_nets_66 rfl (hlt _ (by decide)) rfl ?_
        refine g_iinc (v := (x3 + 1)) (L' := [(3, .int (x3 + 1)), (2, .int v_3), (0, .ref m)]) K dX12_nets_67 2 rfl rfl (hlt _ (by decide)) rfl ?_
        refine g_goto (tgt := 34) K dX12_nets_70 (by decide) ?_
        refine g_sub (L' := [(0, .ref m), (2, .int v_3), (3, .int (x3 + 1))]) [2, 1, 0] rfl ?_
        exact ih v_3 (x3 + 1) h
      · have h := ht9 qh; clear ht9 hf9
        refine g_iconst (v := 1) K dX12_nets_60 (by decide) ?_
        refine g_goto (tgt := 65) K dX12_nets_61 (by decide) ?_
        refine g_iadd K dX12_nets_65 ?_
        obtain ⟨v_4, ev_4, h⟩ := gi_nm h
        refine g_topi ev_4 ?_
        refine g_istore_n (L' := [(2, .int v_4), (0, .ref m), (3, .int x3)]) K dX12_nets_66 rfl (hlt _ (by decide)) rfl ?_
        refine g_iinc (v := (x3 + 1)) (L' := [(3, .int (x3 + 1)), (2, .int v_4), (0, .ref m)]) K dX12_nets_67 2 rfl rfl (hlt _ (by decide)) rfl ?_
        refine g_goto (tgt := 34) K dX12_nets_70 (by decide) ?_
        refine g_sub (L' := [(0, .ref m), (2, .int v_4), (3, .int (x3 + 1))]) [2, 1, 0] rfl ?_
        exact ih v_4 (x3 + 1) h

set_option maxHeartbeats 4000000 in
set_option maxRecDepth 100000 in
theorem wX12_nets {Γ : gT} {m : Nat} {r : Nat → Nat} {o : Nat → Int32} {A : Nat → Nat → Int32} (K : gOK Γ cX12_nets gU RX12) (hlt : ∀ i, i < 4 → i < g_n Γ) (hRm : g_R Γ = ({ frames := 7, cells := 0, slots := 0, locals := 222 } : Room)) {res : Int32} (hret : ∀ (pc : Nat) (L : List (Nat × Value)) (v : Int32) (w : va_W), decode cX12_nets pc = .ok (.ireturn, 1) → narrow .int (.int v) = .int v → (v = res ∧ w = mw (g_E Γ) m r o A) → gGO Γ 0 0 pc L [.int v] w) (x1 : Int32) (h : pX12_nets (A 1) x1 = some res) : gGO Γ 0 0 0 [(0, .ref m), (1, .int x1)] [] (mw (g_E Γ) m r o A) := by
    unfold pX12_nets at h
    refine g_iload_n K dX12_nets_0 rfl 1 rfl ?_
    refine g_iconst (v := (-1)) K dX12_nets_1 (by decide) ?_
    refine g_aload_n K dX12_nets_2 rfl 0 rfl ?_
    refine mg_1 K hin_X12 (u_980) dX12_nets_3 ?_
    refine g_bipush (v := 52) K dX12_nets_6 (by decide) ?_
    obtain ⟨b_1, h⟩ := gi_none h
    refine g_iald (f := (A 1)) K 1 rfl (ginb_in b_1) dX12_nets_8 ?_
    refine g_iconst (v := 1) K dX12_nets_9 (by decide) ?_
    refine g_isub K dX12_nets_10 ?_
    obtain ⟨z_2, hz_2, h⟩ := gi_bd h
    refine g_callSi (As := [.int x1, .int (-1), .int (((A 1) (Int32.toNatClampNeg 52)) - 1)]) (bytes := cX12_in) (maxL := 3) (ret := (some .boolean)) K (ctX12_in (ws := mw (g_E Γ) m r o A) x1 (-1) (((A 1) (Int32.toNatClampNeg 52)) - 1) (res := z_2) hz_2) gc_S_RX12_50_X12_in rfl qs_X12_in hRm rfl rfl rfl (by decide) (Nat.le_of_ble_eq_true rfl) (by decide) dX12_nets_11 (fun v w hw => ?_)
    obtain ⟨hv9, rfl⟩ := hw; have hv9 := hv9.symm; subst hv9
    obtain ⟨ht9, hf9⟩ := gi_br h; clear h
    refine g_if_ne (tgt := 19) K dX12_nets_14 (by decide) (fun qh => ?_) (fun qh => ?_)
    · have h := hf9 qh; clear ht9 hf9
      refine g_iload_n K dX12_nets_19 rfl 1 rfl ?_
      refine g_iconst (v := (-1)) K dX12_nets_20 (by decide) ?_
      obtain ⟨ht9, hf9⟩ := gi_br h; clear h
      refine g_icmp_eq (tgt := 30) K dX12_nets_21 (by decide) (fun qh => ?_) (fun qh => ?_)
      · have h := ht9 qh; clear ht9 hf9
        refine g_iconst (v := 0) K dX12_nets_30 (by decide) ?_
        refine g_istore_n (L' := [(2, .int 0), (0, .ref m), (1, .int x1)]) K dX12_nets_31 rfl (hlt _ (by decide)) rfl ?_
        refine g_iconst (v := 0) K dX12_nets_32 (by decide) ?_
        refine g_istore_n (L' := [(3, .int 0), (2, .int 0), (0, .ref m), (1, .int x1)]) K dX12_nets_33 rfl (hlt _ (by decide)) rfl ?_
        refine g_sub (L' := [(0, .ref m), (2, .int 0), (3, .int 0)]) [2, 1, 0] rfl ?_
        exact wX12_nets_34 K hlt hRm hret 1000 0 0 h
      · have h := hf9 qh; clear ht9 hf9
        refine g_aload_n K dX12_nets_24 rfl 0 rfl ?_
        refine g_iload_n K dX12_nets_25 rfl 1 rfl ?_
        obtain ⟨z_3, hz_3, h⟩ := gi_bd h
        refine g_callVi (As := [.int x1]) (bytes := cX12_netOf) (maxL := 6) (ret := (some .int)) K (ctX12_netOf o A x1 (res := z_3) hz_3) gc_V_RX12_239_X12_netOf rfl qv_X12_netOf 0 rfl rfl rfl hRm rfl rfl rfl (by decide) (Nat.le_of_ble_eq_true rfl) (by decide) dX12_nets_26 (fun v w hw => ?_)
        obtain ⟨hv9, rfl⟩ := hw; have hv9 := hv9.symm; subst hv9
        obtain rfl := Option.some.inj h
        exact hret _ _ _ _ dX12_nets_29 rfl ⟨rfl, rfl⟩
    · have h := ht9 qh; clear ht9 hf9
      refine g_iconst (v := (-1)) K dX12_nets_17 (by decide) ?_
      obtain rfl := Option.some.inj h
      exact hret _ _ _ _ dX12_nets_18 rfl ⟨rfl, rfl⟩

set_option maxRecDepth 100000 in
theorem ctX12_nets {E : gE} {m : Nat} {r : Nat → Nat} (o : Nat → Int32) (A : Nat → Nat → Int32) (x1 : Int32) {res : Int32} (h : pX12_nets (A 1) x1 = some res) : gMi yX12_nets (.code yX12_nets cX12_nets 4 (some .int) :: gU) ({ frames := 7, cells := 0, slots := 0, locals := 222 } : Room) 0 0 E [.ref m, .int x1] (mw E m r o A) (fun v w => v = res ∧ w = mw E m r o A) := by
  refine g_met_i (by decide +kernel) (Nat.le_of_ble_eq_true rfl) (fun Γ K hn hE hRm _ hret => ?_)
  subst hE
  have hlt : ∀ i, i < 4 → i < g_n Γ := fun i q => by rw [hn]; exact q
  refine g_sub (L' := [(0, .ref m), (1, .int x1)]) [0, 1] rfl ?_
  exact wX12_nets K hlt hRm hret x1 h

set_option maxHeartbeats 4000000 in
set_option maxRecDepth 100000 in
theorem wX12_leans_120 {Γ : gT} {m : Nat} {r : Nat → Nat} {o : Nat → Int32} {A : Nat → Nat → Int32} (K : gOK Γ cX12_leans gU RX12) (hlt : ∀ i, i < 9 → i < g_n Γ) (hRm : g_R Γ = ({ frames := 6, cells := 0, slots := 0, locals := 203 } : Room)) {res : Int64} (hret : ∀ (pc : Nat) (L : List (Nat × Value)) (v : Int64) (w : va_W), decode cX12_leans pc = .ok (.lreturn, 1) → (v = res ∧ w = mw (g_E Γ) m r o A) → gGO Γ 0 0 pc L [.long v] w) (x3 : Int32) (x4 : Int32) (x5 : Int32) (h : pX12_leans_120 (A 1) x3 x4 x5 = some res) : gGO Γ 0 0 120 [(3, .int x3), (4, .int x4), (5, .int x5)] [] (mw (g_E Γ) m r o A) := by
    unfold pX12_leans_120 at h
    refine g_iload K dX12_leans_120 2 rfl ?_
    obtain ⟨ht9, hf9⟩ := gi_br h; clear h
    refine g_if_ne (tgt := 131) K dX12_leans_122 (by decide) (fun qh => ?_) (fun qh => ?_)
    · have h := hf9 qh; clear ht9 hf9
      refine g_iload K dX12_leans_131 1 rfl ?_
      refine g_i2l K dX12_leans_133 ?_
      refine g_iload K dX12_leans_134 2 rfl ?_
      refine g_i2l K dX12_leans_136 ?_
      refine g_iload_n K dX12_leans_137 rfl 0 rfl ?_
      obtain ⟨z_1, hz_1, h⟩ := gi_bd h
      refine g_callSl (As := [.long (Int32.toInt64 x4), .long (Int32.toInt64 x5), .int x3]) (bytes := cX12_lowest) (maxL := 5) (ret := (some .long)) K (ctX12_lowest (ws := mw (g_E Γ) m r o A) (Int32.toInt64 x4) (Int32.toInt64 x5) x3 (res := z_1) hz_1) gc_S_RX12_228_X12_lowest rfl qs_X12_lowest hRm rfl rfl rfl (by decide) (Nat.le_of_ble_eq_true rfl) (by decide) dX12_leans_138 (fun v w hw => ?_)
      obtain ⟨hv9, rfl⟩ := hw; have hv9 := hv9.symm; subst hv9
      obtain rfl := Option.some.inj h
      exact hret _ _ _ _ dX12_leans_141 ⟨rfl, rfl⟩
    · have h := ht9 qh; clear ht9 hf9
      refine g_ldc2 (v := (-9223372036854775808)) K u_1282 dX12_leans_125 ?_
      refine g_goto (tgt := 141) K dX12_leans_128 (by decide) ?_
      obtain rfl := Option.some.inj h
      exact hret _ _ _ _ dX12_leans_141 ⟨rfl, rfl⟩

set_option maxHeartbeats 4000000 in
set_option maxRecDepth 100000 in
theorem wX12_leans_43 {Γ : gT} {m : Nat} {r : Nat → Nat} {o : Nat → Int32} {A : Nat → Nat → Int32} (K : gOK Γ cX12_leans gU RX12) (hlt : ∀ i, i < 9 → i < g_n Γ) (hRm : g_R Γ = ({ frames := 6, cells := 0, slots := 0, locals := 203 } : Room)) {res : Int64} (hret : ∀ (pc : Nat) (L : List (Nat × Value)) (v : Int64) (w : va_W), decode cX12_leans pc = .ok (.lreturn, 1) → (v = res ∧ w = mw (g_E Γ) m r o A) → gGO Γ 0 0 pc L [.long v] w) : ∀ (n : Nat) (x1 : Int32) (x2 : Int32) (x3 : Int32) (x4 : Int32) (x5 : Int32) (x6 : Int32), pX12_leans_43 (A 1) n x1 x2 x3 x4 x5 x6 = some res → gGO Γ 0 0 43 [(0, .ref m), (1, .int x1), (2, .int x2), (3, .int x3), (4, .int x4), (5, .int x5), (6, .int x6)] [] (mw (g_E Γ) m r o A) := by
  intro n
  induction n with
  | zero => intro _ _ _ _ _ _ h; cases h
  | succ n ih =>
    intro x1 x2 x3 x4 x5 x6 h
    simp only [pX12_leans_43] at h
    refine g_iload K dX12_leans_43 6 rfl ?_
    refine g_aload_n K dX12_leans_45 rfl 0 rfl ?_
    refine mg_1 K hin_X12 (u_980) dX12_leans_46 ?_
    refine g_bipush (v := 51) K dX12_leans_49 (by decide) ?_
    obtain ⟨b_1, h⟩ := gi_none h
    refine g_iald (f := (A 1)) K 1 rfl (ginb_in b_1) dX12_leans_51 ?_
    obtain ⟨ht9, hf9⟩ := gi_br h; clear h
    refine g_icmp_ge (tgt := 120) K dX12_leans_52 (by decide) (fun qh => ?_) (fun qh => ?_)
    · have h := ht9 qh; clear ht9 hf9
      refine g_sub (L' := [(3, .int x3), (4, .int x4), (5, .int x5)]) [3, 4, 5] rfl ?_
      exact wX12_leans_120 K hlt hRm hret x3 x4 x5 h
    · have h := hf9 qh; clear ht9 hf9
      refine g_aload_n K dX12_leans_55 rfl 0 rfl ?_
      refine g_iload_n K dX12_leans_56 rfl 1 rfl ?_
      refine g_iload K dX12_leans_57 6 rfl ?_
      obtain ⟨z_2, hz_2, h⟩ := gi_bd h
      refine g_callVi (As := [.int x1, .int x6]) (bytes := cX12_firstRow) (maxL := 4) (ret := (some .int)) K (ctX12_firstRow o A x1 x6 (res := z_2) hz_2) gc_V_RX12_232_X12_firstRow rfl qv_X12_firstRow 0 rfl rfl rfl hRm rfl rfl rfl (by decide) (Nat.le_of_ble_eq_true rfl) (by decide) dX12_leans_59 (fun v w hw => ?_)
      obtain ⟨hv9, rfl⟩ := hw; have hv9 := hv9.symm; subst hv9
      refine g_istore (L' := [(7, .int z_2), (0, .ref m), (1, .int x1), (2, .int x2), (3, .int x3), (4, .int x4), (5, .int x5), (6, .int x6)]) K dX12_leans_62 (hlt _ (by decide)) rfl ?_
      refine g_aload_n K dX12_leans_64 rfl 1 rfl ?_
      refine g_iload_n K dX12_leans_65 rfl 3 rfl ?_
      refine g_iload K dX12_leans_66 7 rfl ?_
      obtain ⟨z_3, hz_3, h⟩ := gi_bd h
      refine g_callVi (As := [.int x2, .int x6]) (bytes := cX12_firstRow) (maxL := 4) (ret := (some .int)) K (ctX12_firstRow o A x2 x6 (res := z_3) hz_3) gc_V_RX12_232_X12_firstRow rfl qv_X12_firstRow 0 rfl rfl rfl hRm rfl rfl rfl (by decide) (Nat.le_of_ble_eq_true rfl) (by decide) dX12_leans_68 (fun v w hw => ?_)
      obtain ⟨hv9, rfl⟩ := hw; have hv9 := hv9.symm; subst hv9
      refine g_istore (L' := [(8, .int z_3), (7, .int z_2), (0, .ref m), (1, .int x1), (2, .int x2), (3, .int x3), (4, .int x4), (5, .int x5), (6, .int x6)]) K dX12_leans_71 (hlt _ (by decide)) rfl ?_
      refine g_iload K dX12_leans_73 1 rfl ?_
      refine g_iconst (v := (-1)) K dX12_leans_75 (by decide) ?_
      obtain ⟨ht9, hf9⟩ := gi_br h; clear h
      refine g_icmp_eq (tgt := 114) K dX12_leans_76 (by decide) (fun qh => ?_) (fun qh => ?_)
      · have h := ht9 qh; clear ht9 hf9
        refine g_iinc (v := (x6 + 1)) (L' := [(6, .int (x6 + 1)), (8, .int z_3), (7, .int z_2), (0, .ref m), (1, .int x1), (2, .int x2), (3, .int x3), (4, .int x4), (5, .int x5)]) K dX12_leans_114 8 rfl rfl (hlt _ (by decide)) rfl ?_
        refine g_goto (tgt := 43) K dX12_leans_117 (by decide) ?_
        refine g_sub (L' := [(0, .ref m), (1, .int x1), (2, .int x2), (3, .int x3), (4, .int x4), (5, .int x5), (6, .int (x6 + 1))]) [3, 4, 5, 6, 7, 8, 0] rfl ?_
        exact ih x1 x2 x3 x4 x5 (x6 + 1) h
      · have h := hf9 qh; clear ht9 hf9
        refine g_iload K dX12_leans_79 0 rfl ?_
        refine g_iconst (v := (-1)) K dX12_leans_81 (by decide) ?_
        obtain ⟨ht9, hf9⟩ := gi_br h; clear h
        refine g_icmp_eq (tgt := 114) K dX12_leans_82 (by decide) (fun qh => ?_) (fun qh => ?_)
        · have h := ht9 qh; clear ht9 hf9
          refine g_iinc (v := (x6 + 1)) (L' := [(6, .int (x6 + 1)), (8, .int z_3), (7, .int z_2), (0, .ref m), (1, .int x1), (2, .int x2), (3, .int x3), (4, .int x4), (5, .int x5)]) K dX12_leans_114 8 rfl rfl (hlt _ (by decide)) rfl ?_
          refine g_goto (tgt := 43) K dX12_leans_117 (by decide) ?_
          refine g_sub (L' := [(0, .ref m), (1, .int x1), (2, .int x2), (3, .int x3), (4, .int x4), (5, .int x5), (6, .int (x6 + 1))]) [3, 4, 5, 6, 7, 8, 0] rfl ?_
          exact ih x1 x2 x3 x4 x5 (x6 + 1) h
        · have h := hf9 qh; clear ht9 hf9
          refine g_iload K dX12_leans_85 6 rfl ?_
          refine g_aload_n K dX12_leans_87 rfl 2 rfl ?_
          refine mg_1 K hin_X12 (u_980) dX12_leans_88 ?_
          refine g_bipush (v := 112) K dX12_leans_91 (by decide) ?_
          refine g_iload K dX12_leans_93 1 rfl ?_
          refine g_iadd K dX12_leans_95 ?_
          obtain ⟨b_4, h⟩ := gi_none h
          refine g_iald (f := (A 1)) K 1 rfl (ginb_in b_4) dX12_leans_96 ?_
          refine g_aload_n K dX12_leans_97 rfl 2 rfl ?_
          refine mg_1 K hin_X12 (u_980) dX12_leans_98 ?_
          refine g_bipush (v := 112) K dX12_leans_101 (by decide) ?_
          refine g_iload K dX12_leans_103 0 rfl ?_
          refine g_iadd K dX12_leans_105 ?_
          obtain ⟨b_5, h⟩ := gi_none h
          refine g_iald (f := (A 1)) K 1 rfl (ginb_in b_5) dX12_leans_106 ?_
          refine g_isub K dX12_leans_107 ?_
          refine g_iadd K dX12_leans_108 ?_
          obtain ⟨v_6, ev_6, h⟩ := gi_nm h
          refine g_topi ev_6 ?_
          refine g_istore (L' := [(4, .int v_6), (8, .int z_3), (7, .int z_2), (0, .ref m), (1, .int x1), (2, .int x2), (3, .int x3), (5, .int x5), (6, .int x6)]) K dX12_leans_109 (hlt _ (by decide)) rfl ?_
          refine g_iinc (v := (x5 + 1)) (L' := [(5, .int (x5 + 1)), (4, .int v_6), (8, .int z_3), (7, .int z_2), (0, .ref m), (1, .int x1), (2, .int x2), (3, .int x3), (6, .int x6)]) K dX12_leans_111 7 rfl rfl (hlt _ (by decide)) rfl ?_
          refine g_iinc (v := (x6 + 1)) (L' := [(6, .int (x6 + 1)), (5, .int (x5 + 1)), (4, .int v_6), (8, .int z_3), (7, .int z_2), (0, .ref m), (1, .int x1), (2, .int x2), (3, .int x3)]) K dX12_leans_114 8 rfl rfl (hlt _ (by decide)) rfl ?_
          refine g_goto (tgt := 43) K dX12_leans_117 (by decide) ?_
          refine g_sub (L' := [(0, .ref m), (1, .int x1), (2, .int x2), (3, .int x3), (4, .int v_6), (5, .int (x5 + 1)), (6, .int (x6 + 1))]) [5, 6, 7, 8, 2, 1, 0] rfl ?_
          exact ih x1 x2 x3 v_6 (x5 + 1) (x6 + 1) h

set_option maxHeartbeats 4000000 in
set_option maxRecDepth 100000 in
theorem wX12_leans {Γ : gT} {m : Nat} {r : Nat → Nat} {o : Nat → Int32} {A : Nat → Nat → Int32} (K : gOK Γ cX12_leans gU RX12) (hlt : ∀ i, i < 9 → i < g_n Γ) (hRm : g_R Γ = ({ frames := 6, cells := 0, slots := 0, locals := 203 } : Room)) {res : Int64} (hret : ∀ (pc : Nat) (L : List (Nat × Value)) (v : Int64) (w : va_W), decode cX12_leans pc = .ok (.lreturn, 1) → (v = res ∧ w = mw (g_E Γ) m r o A) → gGO Γ 0 0 pc L [.long v] w) (x1 : Int32) (x2 : Int32) (x3 : Int32) (h : pX12_leans (A 1) x1 x2 x3 = some res) : gGO Γ 0 0 0 [(0, .ref m), (1, .int x1), (2, .int x2), (3, .int x3)] [] (mw (g_E Γ) m r o A) := by
    unfold pX12_leans at h
    refine g_aload_n K dX12_leans_0 rfl 0 rfl ?_
    refine g_iload_n K dX12_leans_1 rfl 1 rfl ?_
    obtain ⟨z_1, hz_1, h⟩ := gi_bd h
    refine g_callVi (As := [.int x1]) (bytes := cX12_isChief) (maxL := 2) (ret := (some .boolean)) K (ctX12_isChief o A x1 (res := z_1) hz_1) gc_V_RX12_138_X12_isChief rfl qv_X12_isChief 0 rfl rfl rfl hRm rfl rfl rfl (by decide) (Nat.le_of_ble_eq_true rfl) (by decide) dX12_leans_2 (fun v w hw => ?_)
    obtain ⟨hv9, rfl⟩ := hw; have hv9 := hv9.symm; subst hv9
    obtain ⟨ht9, hf9⟩ := gi_br h; clear h
    refine g_if_eq (tgt := 30) K dX12_leans_5 (by decide) (fun qh => ?_) (fun qh => ?_)
    · have h := ht9 qh; clear ht9 hf9
      refine g_ldc2 (v := (-9223372036854775808)) K u_1282 dX12_leans_30 ?_
      obtain rfl := Option.some.inj h
      exact hret _ _ _ _ dX12_leans_33 ⟨rfl, rfl⟩
    · have h := hf9 qh; clear ht9 hf9
      refine g_aload_n K dX12_leans_8 rfl 0 rfl ?_
      refine g_iload_n K dX12_leans_9 rfl 2 rfl ?_
      obtain ⟨z_2, hz_2, h⟩ := gi_bd h
      refine g_callVi (As := [.int x2]) (bytes := cX12_isChief) (maxL := 2) (ret := (some .boolean)) K (ctX12_isChief o A x2 (res := z_2) hz_2) gc_V_RX12_138_X12_isChief rfl qv_X12_isChief 0 rfl rfl rfl hRm rfl rfl rfl (by decide) (Nat.le_of_ble_eq_true rfl) (by decide) dX12_leans_10 (fun v w hw => ?_)
      obtain ⟨hv9, rfl⟩ := hw; have hv9 := hv9.symm; subst hv9
      obtain ⟨ht9, hf9⟩ := gi_br h; clear h
      refine g_if_eq (tgt := 30) K dX12_leans_13 (by decide) (fun qh => ?_) (fun qh => ?_)
      · have h := ht9 qh; clear ht9 hf9
        refine g_ldc2 (v := (-9223372036854775808)) K u_1282 dX12_leans_30 ?_
        obtain rfl := Option.some.inj h
        exact hret _ _ _ _ dX12_leans_33 ⟨rfl, rfl⟩
      · have h := hf9 qh; clear ht9 hf9
        refine g_iload_n K dX12_leans_16 rfl 1 rfl ?_
        refine g_iload_n K dX12_leans_17 rfl 2 rfl ?_
        obtain ⟨ht9, hf9⟩ := gi_br h; clear h
        refine g_icmp_eq (tgt := 30) K dX12_leans_18 (by decide) (fun qh => ?_) (fun qh => ?_)
        · have h := ht9 qh; clear ht9 hf9
          refine g_ldc2 (v := (-9223372036854775808)) K u_1282 dX12_leans_30 ?_
          obtain rfl := Option.some.inj h
          exact hret _ _ _ _ dX12_leans_33 ⟨rfl, rfl⟩
        · have h := hf9 qh; clear ht9 hf9
          refine g_iload_n K dX12_leans_21 rfl 3 rfl ?_
          refine g_iconst (v := 0) K dX12_leans_22 (by decide) ?_
          refine g_iconst (v := 1) K dX12_leans_23 (by decide) ?_
          obtain ⟨z_3, hz_3, h⟩ := gi_bd h
          refine g_callSi (As := [.int x3, .int 0, .int 1]) (bytes := cX12_in) (maxL := 3) (ret := (some .boolean)) K (ctX12_in (ws := mw (g_E Γ) m r o A) x3 0 1 (res := z_3) hz_3) gc_S_RX12_50_X12_in rfl qs_X12_in hRm rfl rfl rfl (by decide) (Nat.le_of_ble_eq_true rfl) (by decide) dX12_leans_24 (fun v w hw => ?_)
          obtain ⟨hv9, rfl⟩ := hw; have hv9 := hv9.symm; subst hv9
          obtain ⟨ht9, hf9⟩ := gi_br h; clear h
          refine g_if_ne (tgt := 34) K dX12_leans_27 (by decide) (fun qh => ?_) (fun qh => ?_)
          · have h := hf9 qh; clear ht9 hf9
            refine g_iconst (v := 0) K dX12_leans_34 (by decide) ?_
            refine g_istore (L' := [(4, .int 0), (0, .ref m), (1, .int x1), (2, .int x2), (3, .int x3)]) K dX12_leans_35 (hlt _ (by decide)) rfl ?_
            refine g_iconst (v := 0) K dX12_leans_37 (by decide) ?_
            refine g_istore (L' := [(5, .int 0), (4, .int 0), (0, .ref m), (1, .int x1), (2, .int x2), (3, .int x3)]) K dX12_leans_38 (hlt _ (by decide)) rfl ?_
            refine g_iconst (v := 0) K dX12_leans_40 (by decide) ?_
            refine g_istore (L' := [(6, .int 0), (5, .int 0), (4, .int 0), (0, .ref m), (1, .int x1), (2, .int x2), (3, .int x3)]) K dX12_leans_41 (hlt _ (by decide)) rfl ?_
            refine g_sub (L' := [(0, .ref m), (1, .int x1), (2, .int x2), (3, .int x3), (4, .int 0), (5, .int 0), (6, .int 0)]) [3, 4, 5, 6, 2, 1, 0] rfl ?_
            exact wX12_leans_43 K hlt hRm hret 1000 x1 x2 x3 0 0 0 h
          · have h := ht9 qh; clear ht9 hf9
            refine g_ldc2 (v := (-9223372036854775808)) K u_1282 dX12_leans_30 ?_
            obtain rfl := Option.some.inj h
            exact hret _ _ _ _ dX12_leans_33 ⟨rfl, rfl⟩

set_option maxRecDepth 100000 in
theorem ctX12_leans {E : gE} {m : Nat} {r : Nat → Nat} (o : Nat → Int32) (A : Nat → Nat → Int32) (x1 : Int32) (x2 : Int32) (x3 : Int32) {res : Int64} (h : pX12_leans (A 1) x1 x2 x3 = some res) : gMl yX12_leans (.code yX12_leans cX12_leans 9 (some .long) :: gU) ({ frames := 6, cells := 0, slots := 0, locals := 203 } : Room) 0 0 E [.ref m, .int x1, .int x2, .int x3] (mw E m r o A) (fun v w => v = res ∧ w = mw E m r o A) := by
  refine g_met_l (by decide +kernel) (Nat.le_of_ble_eq_true rfl) (fun Γ K hn hE hRm _ hret => ?_)
  subst hE
  have hlt : ∀ i, i < 9 → i < g_n Γ := fun i q => by rw [hn]; exact q
  refine g_sub (L' := [(0, .ref m), (1, .int x1), (2, .int x2), (3, .int x3)]) [0, 1, 2, 3] rfl ?_
  exact wX12_leans K hlt hRm hret x1 x2 x3 h

set_option maxHeartbeats 4000000 in
set_option maxRecDepth 100000 in
theorem wX12_looked_2 {Γ : gT} {m : Nat} {r : Nat → Nat} {o : Nat → Int32} {A : Nat → Nat → Int32} (K : gOK Γ cX12_looked gU RX12) (hlt : ∀ i, i < 2 → i < g_n Γ) (hRm : g_R Γ = ({ frames := 10, cells := 0, slots := 0, locals := 288 } : Room)) {res : Int32 × ((Nat → Int32)) × ((Nat → Int32)) × ((Nat → Int32)) × ((Nat → Int32)) × ((Nat → Int32)) × ((Nat → Int32))} (hret : ∀ (pc : Nat) (L : List (Nat × Value)) (v : Int32) (w : va_W), decode cX12_looked pc = .ok (.ireturn, 1) → narrow .int (.int v) = .int v → (v = res.1 ∧ w = mw (g_E Γ) m r o (gu (gu (gu (gu (gu (gu A 1 res.2.1) 10 res.2.2.1) 11 res.2.2.2.1) 12 res.2.2.2.2.1) 13 res.2.2.2.2.2.1) 15 res.2.2.2.2.2.2)) → gGO Γ 0 0 pc L [.int v] w) : ∀ (n : Nat) (a1 : (Nat → Int32)) (a10 : (Nat → Int32)) (a11 : (Nat → Int32)) (a12 : (Nat → Int32)) (a13 : (Nat → Int32)) (a15 : (Nat → Int32)) (x1 : Int32), pX12_looked_2 n a1 a10 a11 a12 a13 a15 x1 = some res → gGO Γ 0 0 2 [(0, .ref m), (1, .int x1)] [] (mw (g_E Γ) m r o (gu (gu (gu (gu (gu (gu A 1 a1) 10 a10) 11 a11) 12 a12) 13 a13) 15 a15)) := by
  intro n
  induction n with
  | zero => intro _ _ _ _ _ _ _ h; cases h
  | succ n ih =>
    intro a1 a10 a11 a12 a13 a15 x1 h
    simp only [pX12_looked_2] at h
    refine g_iload_n K dX12_looked_2 rfl 1 rfl ?_
    refine g_aload_n K dX12_looked_3 rfl 0 rfl ?_
    refine mg_1 K hin_X12 (u_980) dX12_looked_4 ?_
    refine g_bipush (v := 54) K dX12_looked_7 (by decide) ?_
    obtain ⟨b_1, h⟩ := gi_none h
    refine g_iald (f := a1) K 1 rfl (ginb_in b_1) dX12_looked_9 ?_
    obtain ⟨ht9, hf9⟩ := gi_br h; clear h
    refine g_icmp_ge (tgt := 55) K dX12_looked_10 (by decide) (fun qh => ?_) (fun qh => ?_)
    · have h := ht9 qh; clear ht9 hf9
      refine g_bipush (v := (-5)) K dX12_looked_55 (by decide) ?_
      obtain rfl := Option.some.inj h
      exact hret _ _ _ _ dX12_looked_57 rfl ⟨rfl, rfl⟩
    · have h := hf9 qh; clear ht9 hf9
      refine g_aload_n K dX12_looked_13 rfl 0 rfl ?_
      refine g_aload_n K dX12_looked_14 rfl 0 rfl ?_
      refine mg_1 K hin_X12 (u_980) dX12_looked_15 ?_
      refine g_bipush (v := 72) K dX12_looked_18 (by decide) ?_
      refine g_iload_n K dX12_looked_20 rfl 1 rfl ?_
      refine g_iadd K dX12_looked_21 ?_
      obtain ⟨b_2, h⟩ := gi_none h
      refine g_iald (f := a1) K 1 rfl (ginb_in b_2) dX12_looked_22 ?_
      refine g_aload_n K dX12_looked_23 rfl 0 rfl ?_
      refine mg_1 K hin_X12 (u_980) dX12_looked_24 ?_
      refine g_bipush (v := 92) K dX12_looked_27 (by decide) ?_
      refine g_iload_n K dX12_looked_29 rfl 1 rfl ?_
      refine g_iadd K dX12_looked_30 ?_
      obtain ⟨b_3, h⟩ := gi_none h
      refine g_iald (f := a1) K 1 rfl (ginb_in b_3) dX12_looked_31 ?_
      obtain ⟨z_4, hz_4, h⟩ := gi_bd h
      refine g_callVi (As := [.int (a1 (Int32.toNatClampNeg (72 + x1))), .int (a1 (Int32.toNatClampNeg (92 + x1)))]) (bytes := cX12_movedOf) (maxL := 4) (ret := (some .int)) K (ctX12_movedOf o (gu (gu (gu (gu (gu (gu A 1 a1) 10 a10) 11 a11) 12 a12) 13 a13) 15 a15) (a1 (Int32.toNatClampNeg (72 + x1))) (a1 (Int32.toNatClampNeg (92 + x1))) (res := z_4) hz_4) gc_V_RX12_200_X12_movedOf rfl qv_X12_movedOf 0 rfl rfl rfl hRm rfl rfl rfl (by decide) (Nat.le_of_ble_eq_true rfl) (by decide) dX12_looked_32 (fun v w hw => ?_)
      obtain ⟨hv9, rfl⟩ := hw; have hv9 := hv9.symm; subst hv9
      refine g_ws (ws' := mw (g_E Γ) m r o (gu (gu (gu (gu (gu (gu A 1 z_4.2.1) 10 z_4.2.2.1) 11 z_4.2.2.2.1) 12 z_4.2.2.2.2.1) 13 z_4.2.2.2.2.2.1) 15 z_4.2.2.2.2.2.2)) rfl ?_
      refine g_aload_n K dX12_looked_35 rfl 0 rfl ?_
      refine mg_1 K hin_X12 (u_980) dX12_looked_36 ?_
      refine g_bipush (v := 112) K dX12_looked_39 (by decide) ?_
      refine g_iload_n K dX12_looked_41 rfl 1 rfl ?_
      refine g_iadd K dX12_looked_42 ?_
      obtain ⟨b_5, h⟩ := gi_none h
      refine g_iald (f := z_4.2.1) K 1 rfl (ginb_in b_5) dX12_looked_43 ?_
      obtain ⟨ht9, hf9⟩ := gi_br h; clear h
      refine g_icmp_eq (tgt := 49) K dX12_looked_44 (by decide) (fun qh => ?_) (fun qh => ?_)
      · have h := ht9 qh; clear ht9 hf9
        refine g_iinc (v := (x1 + 1)) (L' := [(1, .int (x1 + 1)), (0, .ref m)]) K dX12_looked_49 1 rfl rfl (hlt _ (by decide)) rfl ?_
        refine g_goto (tgt := 2) K dX12_looked_52 (by decide) ?_
        refine g_sub (L' := [(0, .ref m), (1, .int (x1 + 1))]) [1, 0] rfl ?_
        exact ih z_4.2.1 z_4.2.2.1 z_4.2.2.2.1 z_4.2.2.2.2.1 z_4.2.2.2.2.2.1 z_4.2.2.2.2.2.2 (x1 + 1) h
      · have h := hf9 qh; clear ht9 hf9
        refine g_iload_n K dX12_looked_47 rfl 1 rfl ?_
        obtain rfl := Option.some.inj h
        exact hret _ _ _ _ dX12_looked_48 rfl ⟨rfl, rfl⟩

set_option maxHeartbeats 4000000 in
set_option maxRecDepth 100000 in
theorem wX12_looked {Γ : gT} {m : Nat} {r : Nat → Nat} {o : Nat → Int32} {A : Nat → Nat → Int32} (K : gOK Γ cX12_looked gU RX12) (hlt : ∀ i, i < 2 → i < g_n Γ) (hRm : g_R Γ = ({ frames := 10, cells := 0, slots := 0, locals := 288 } : Room)) {res : Int32 × ((Nat → Int32)) × ((Nat → Int32)) × ((Nat → Int32)) × ((Nat → Int32)) × ((Nat → Int32)) × ((Nat → Int32))} (hret : ∀ (pc : Nat) (L : List (Nat × Value)) (v : Int32) (w : va_W), decode cX12_looked pc = .ok (.ireturn, 1) → narrow .int (.int v) = .int v → (v = res.1 ∧ w = mw (g_E Γ) m r o (gu (gu (gu (gu (gu (gu A 1 res.2.1) 10 res.2.2.1) 11 res.2.2.2.1) 12 res.2.2.2.2.1) 13 res.2.2.2.2.2.1) 15 res.2.2.2.2.2.2)) → gGO Γ 0 0 pc L [.int v] w) (a1 : (Nat → Int32)) (a10 : (Nat → Int32)) (a11 : (Nat → Int32)) (a12 : (Nat → Int32)) (a13 : (Nat → Int32)) (a15 : (Nat → Int32)) (h : pX12_looked a1 a10 a11 a12 a13 a15 = some res) : gGO Γ 0 0 0 [(0, .ref m)] [] (mw (g_E Γ) m r o (gu (gu (gu (gu (gu (gu A 1 a1) 10 a10) 11 a11) 12 a12) 13 a13) 15 a15)) := by
    unfold pX12_looked at h
    refine g_iconst (v := 0) K dX12_looked_0 (by decide) ?_
    refine g_istore_n (L' := [(1, .int 0), (0, .ref m)]) K dX12_looked_1 rfl (hlt _ (by decide)) rfl ?_
    refine g_sub (L' := [(0, .ref m), (1, .int 0)]) [1, 0] rfl ?_
    exact wX12_looked_2 K hlt hRm hret 1000 a1 a10 a11 a12 a13 a15 0 h

set_option maxRecDepth 100000 in
theorem ctX12_looked {E : gE} {m : Nat} {r : Nat → Nat} (o : Nat → Int32) (A : Nat → Nat → Int32) {res : Int32 × ((Nat → Int32)) × ((Nat → Int32)) × ((Nat → Int32)) × ((Nat → Int32)) × ((Nat → Int32)) × ((Nat → Int32))} (h : pX12_looked (A 1) (A 10) (A 11) (A 12) (A 13) (A 15) = some res) : gMi yX12_looked (.code yX12_looked cX12_looked 2 (some .int) :: gU) ({ frames := 10, cells := 0, slots := 0, locals := 288 } : Room) 0 0 E [.ref m] (mw E m r o A) (fun v w => v = res.1 ∧ w = mw E m r o (gu (gu (gu (gu (gu (gu A 1 res.2.1) 10 res.2.2.1) 11 res.2.2.2.1) 12 res.2.2.2.2.1) 13 res.2.2.2.2.2.1) 15 res.2.2.2.2.2.2)) := by
  refine g_met_i (by decide +kernel) (Nat.le_of_ble_eq_true rfl) (fun Γ K hn hE hRm _ hret => ?_)
  subst hE
  have hlt : ∀ i, i < 2 → i < g_n Γ := fun i q => by rw [hn]; exact q
  refine g_ws (ws' := mw (g_E Γ) m r o (gu (gu (gu (gu (gu (gu A 1 (A 1)) 10 (A 10)) 11 (A 11)) 12 (A 12)) 13 (A 13)) 15 (A 15))) rfl ?_
  refine g_sub (L' := [(0, .ref m)]) [0] rfl ?_
  exact wX12_looked K hlt hRm hret (A 1) (A 10) (A 11) (A 12) (A 13) (A 15) h

set_option maxHeartbeats 4000000 in
set_option maxRecDepth 100000 in
theorem wX12_isUnder {Γ : gT} {ws : va_W} (K : gOK Γ cX12_isUnder gU RX12) (hlt : ∀ i, i < 2 → i < g_n Γ) (hRm : g_R Γ = ({ frames := 4, cells := 0, slots := 0, locals := 150 } : Room)) {res : Int32} (hret : ∀ (pc : Nat) (L : List (Nat × Value)) (v : Int32) (w : va_W), decode cX12_isUnder pc = .ok (.ireturn, 1) → narrow .boolean (.int v) = .int v → (v = res ∧ w = ws) → gGO Γ 0 0 pc L [.int v] w) (x0 : Int32) (x1 : Int32) (h : pX12_isUnder x0 x1 = some res) : gGO Γ 0 0 0 [(0, .int x0), (1, .int x1)] [] (ws) := by
    unfold pX12_isUnder at h
    refine g_iload_n K dX12_isUnder_0 rfl 1 rfl ?_
    obtain ⟨ht9, hf9⟩ := gi_br h; clear h
    refine g_if_eq (tgt := 25) K dX12_isUnder_1 (by decide) (fun qh => ?_) (fun qh => ?_)
    · have h := ht9 qh; clear ht9 hf9
      refine g_iconst (v := 1) K dX12_isUnder_25 (by decide) ?_
      refine g_goto (tgt := 30) K dX12_isUnder_26 (by decide) ?_
      obtain rfl := Option.some.inj h
      exact hret _ _ _ _ dX12_isUnder_30 (by decide) ⟨rfl, rfl⟩
    · have h := hf9 qh; clear ht9 hf9
      refine g_iload_n K dX12_isUnder_4 rfl 1 rfl ?_
      refine g_iload_n K dX12_isUnder_5 rfl 0 rfl ?_
      obtain ⟨ht9, hf9⟩ := gi_br h; clear h
      refine g_icmp_eq (tgt := 25) K dX12_isUnder_6 (by decide) (fun qh => ?_) (fun qh => ?_)
      · have h := ht9 qh; clear ht9 hf9
        refine g_iconst (v := 1) K dX12_isUnder_25 (by decide) ?_
        refine g_goto (tgt := 30) K dX12_isUnder_26 (by decide) ?_
        obtain rfl := Option.some.inj h
        exact hret _ _ _ _ dX12_isUnder_30 (by decide) ⟨rfl, rfl⟩
      · have h := hf9 qh; clear ht9 hf9
        refine g_iload_n K dX12_isUnder_9 rfl 1 rfl ?_
        obtain ⟨ht9, hf9⟩ := gi_br h; clear h
        refine g_if_le (tgt := 29) K dX12_isUnder_10 (by decide) (fun qh => ?_) (fun qh => ?_)
        · have h := ht9 qh; clear ht9 hf9
          refine g_iconst (v := 0) K dX12_isUnder_29 (by decide) ?_
          obtain rfl := Option.some.inj h
          exact hret _ _ _ _ dX12_isUnder_30 (by decide) ⟨rfl, rfl⟩
        · have h := hf9 qh; clear ht9 hf9
          refine g_iload_n K dX12_isUnder_13 rfl 1 rfl ?_
          refine g_iconst (v := 4) K dX12_isUnder_14 (by decide) ?_
          obtain ⟨ht9, hf9⟩ := gi_br h; clear h
          refine g_icmp_ge (tgt := 29) K dX12_isUnder_15 (by decide) (fun qh => ?_) (fun qh => ?_)
          · have h := ht9 qh; clear ht9 hf9
            refine g_iconst (v := 0) K dX12_isUnder_29 (by decide) ?_
            obtain rfl := Option.some.inj h
            exact hret _ _ _ _ dX12_isUnder_30 (by decide) ⟨rfl, rfl⟩
          · have h := hf9 qh; clear ht9 hf9
            refine g_iload_n K dX12_isUnder_18 rfl 0 rfl ?_
            refine g_iload_n K dX12_isUnder_19 rfl 1 rfl ?_
            refine g_iconst (v := 3) K dX12_isUnder_20 (by decide) ?_
            refine g_iadd K dX12_isUnder_21 ?_
            obtain ⟨ht9, hf9⟩ := gi_br h; clear h
            refine g_icmp_ne (tgt := 29) K dX12_isUnder_22 (by decide) (fun qh => ?_) (fun qh => ?_)
            · have h := hf9 qh; clear ht9 hf9
              refine g_iconst (v := 0) K dX12_isUnder_29 (by decide) ?_
              obtain rfl := Option.some.inj h
              exact hret _ _ _ _ dX12_isUnder_30 (by decide) ⟨rfl, rfl⟩
            · have h := ht9 qh; clear ht9 hf9
              refine g_iconst (v := 1) K dX12_isUnder_25 (by decide) ?_
              refine g_goto (tgt := 30) K dX12_isUnder_26 (by decide) ?_
              obtain rfl := Option.some.inj h
              exact hret _ _ _ _ dX12_isUnder_30 (by decide) ⟨rfl, rfl⟩

set_option maxRecDepth 100000 in
theorem ctX12_isUnder {E : gE} {ws : va_W} (x0 : Int32) (x1 : Int32) {res : Int32} (h : pX12_isUnder x0 x1 = some res) : gMi yX12_isUnder (.code yX12_isUnder cX12_isUnder 2 (some .boolean) :: gU) ({ frames := 4, cells := 0, slots := 0, locals := 150 } : Room) 0 0 E [.int x0, .int x1] ws (fun v w => v = res ∧ w = ws) := by
  refine g_met_i (by decide +kernel) (Nat.le_of_ble_eq_true rfl) (fun Γ K hn hE hRm _ hret => ?_)
  subst hE
  have hlt : ∀ i, i < 2 → i < g_n Γ := fun i q => by rw [hn]; exact q
  refine g_sub (L' := [(0, .int x0), (1, .int x1)]) [0, 1] rfl ?_
  exact wX12_isUnder K hlt hRm hret x0 x1 h

set_option maxHeartbeats 4000000 in
set_option maxRecDepth 100000 in
theorem wX12_ranBody {Γ : gT} {m : Nat} {r : Nat → Nat} {o : Nat → Int32} {A : Nat → Nat → Int32} (K : gOK Γ cX12_ranBody gU RX12) (hlt : ∀ i, i < 2 → i < g_n Γ) (hRm : g_R Γ = ({ frames := 4, cells := 0, slots := 0, locals := 150 } : Room)) {res : ((Nat → Int32)) × Int32} (hret : ∀ (pc : Nat) (L : List (Nat × Value)) (w : va_W), decode cX12_ranBody pc = .ok (.return_, 1) → (w = mw (g_E Γ) m r (gu o 18 res.2) (gu A 17 res.1)) → gGO Γ 0 0 pc L [] w) (a17 : (Nat → Int32)) (o18 : Int32) (x1 : Int32) (h : pX12_ranBody a17 o18 x1 = some res) : gGO Γ 0 0 0 [(0, .ref m), (1, .int x1)] [] (mw (g_E Γ) m r (gu o 18 o18) (gu A 17 a17)) := by
    unfold pX12_ranBody at h
    refine g_aload_n K dX12_ranBody_0 rfl 0 rfl ?_
    refine mg_18 (v := o18) K hin_X12 (u_997) rfl dX12_ranBody_1 ?_
    refine g_bipush (v := 20) K dX12_ranBody_4 (by decide) ?_
    obtain ⟨ht9, hf9⟩ := gi_br h; clear h
    refine g_icmp_ge (tgt := 19) K dX12_ranBody_6 (by decide) (fun qh => ?_) (fun qh => ?_)
    · have h := ht9 qh; clear ht9 hf9
      refine g_aload_n K dX12_ranBody_19 rfl 0 rfl ?_
      refine g_dup K dX12_ranBody_20 rfl ?_
      refine mg_18 (v := o18) K hin_X12 (u_997) rfl dX12_ranBody_21 ?_
      refine g_iconst (v := 1) K dX12_ranBody_24 (by decide) ?_
      refine g_iadd K dX12_ranBody_25 ?_
      refine mp_18 (w' := mw (g_E Γ) m r (gu o 18 (o18 + 1)) (gu A 17 a17)) K hin_X12 (u_997) rfl rfl dX12_ranBody_26 rfl ?_
      obtain rfl := Option.some.inj h
      exact hret _ _ _ dX12_ranBody_29 rfl
    · have h := hf9 qh; clear ht9 hf9
      refine g_aload_n K dX12_ranBody_9 rfl 0 rfl ?_
      refine mg_17 K hin_X12 (u_996) dX12_ranBody_10 ?_
      refine g_aload_n K dX12_ranBody_13 rfl 0 rfl ?_
      refine mg_18 (v := o18) K hin_X12 (u_997) rfl dX12_ranBody_14 ?_
      refine g_iload_n K dX12_ranBody_17 rfl 1 rfl ?_
      obtain ⟨b_1, h⟩ := gi_none h
      obtain ⟨f_2, ef_2, h⟩ := gi_nm h
      refine g_iast (f := a17) (ws' := mw (g_E Γ) m r (gu o 18 o18) (gu A 17 f_2)) K 11 rfl (ginb_in b_1) dX12_ranBody_18 (by rw [ef_2]; rfl) ?_
      refine g_aload_n K dX12_ranBody_19 rfl 0 rfl ?_
      refine g_dup K dX12_ranBody_20 rfl ?_
      refine mg_18 (v := o18) K hin_X12 (u_997) rfl dX12_ranBody_21 ?_
      refine g_iconst (v := 1) K dX12_ranBody_24 (by decide) ?_
      refine g_iadd K dX12_ranBody_25 ?_
      refine mp_18 (w' := mw (g_E Γ) m r (gu o 18 (o18 + 1)) (gu A 17 f_2)) K hin_X12 (u_997) rfl rfl dX12_ranBody_26 rfl ?_
      obtain rfl := Option.some.inj h
      exact hret _ _ _ dX12_ranBody_29 rfl

set_option maxRecDepth 100000 in
theorem ctX12_ranBody {E : gE} {m : Nat} {r : Nat → Nat} (o : Nat → Int32) (A : Nat → Nat → Int32) (x1 : Int32) {res : ((Nat → Int32)) × Int32} (h : pX12_ranBody (A 17) (o 18) x1 = some res) : gMv yX12_ranBody (.code yX12_ranBody cX12_ranBody 2 none :: gU) ({ frames := 4, cells := 0, slots := 0, locals := 150 } : Room) 0 0 E [.ref m, .int x1] (mw E m r o A) (fun w => w = mw E m r (gu o 18 res.2) (gu A 17 res.1)) := by
  refine g_met_v (by decide +kernel) (Nat.le_of_ble_eq_true rfl) (fun Γ K hn hE hRm _ hret => ?_)
  subst hE
  have hlt : ∀ i, i < 2 → i < g_n Γ := fun i q => by rw [hn]; exact q
  refine g_ws (ws' := mw (g_E Γ) m r (gu o 18 (o 18)) (gu A 17 (A 17))) rfl ?_
  refine g_sub (L' := [(0, .ref m), (1, .int x1)]) [0, 1] rfl ?_
  exact wX12_ranBody K hlt hRm hret (A 17) (o 18) x1 h

set_option maxHeartbeats 4000000 in
set_option maxRecDepth 100000 in
theorem wX12_plainWorks {Γ : gT} {m : Nat} {r : Nat → Nat} {o : Nat → Int32} {A : Nat → Nat → Int32} (K : gOK Γ cX12_plainWorks gU RX12) (hlt : ∀ i, i < 2 → i < g_n Γ) (hRm : g_R Γ = ({ frames := 5, cells := 0, slots := 0, locals := 171 } : Room)) {res : Int32 × ((Nat → Int32)) × Int32} (hret : ∀ (pc : Nat) (L : List (Nat × Value)) (v : Int32) (w : va_W), decode cX12_plainWorks pc = .ok (.ireturn, 1) → narrow .int (.int v) = .int v → (v = res.1 ∧ w = mw (g_E Γ) m r (gu o 18 res.2.2) (gu A 17 res.2.1)) → gGO Γ 0 0 pc L [.int v] w) (a17 : (Nat → Int32)) (o18 : Int32) (x1 : Int32) (h : pX12_plainWorks (o 20) a17 o18 x1 = some res) : gGO Γ 0 0 0 [(0, .ref m), (1, .int x1)] [] (mw (g_E Γ) m r (gu o 18 o18) (gu A 17 a17)) := by
    unfold pX12_plainWorks at h
    refine g_aload_n K dX12_plainWorks_0 rfl 0 rfl ?_
    refine g_iconst (v := 1) K dX12_plainWorks_1 (by decide) ?_
    obtain ⟨z_1, hz_1, h⟩ := gi_bd h
    refine g_callVv (As := [.int 1]) (bytes := cX12_ranBody) (maxL := 2) (ret := none) K (ctX12_ranBody (gu o 18 o18) (gu A 17 a17) 1 (res := z_1) hz_1) gc_V_RX12_245_X12_ranBody rfl qv_X12_ranBody 0 rfl rfl rfl hRm rfl rfl rfl (by decide) (Nat.le_of_ble_eq_true rfl) (by decide) dX12_plainWorks_2 (fun w hw => ?_)
    subst hw
    refine g_ws (ws' := mw (g_E Γ) m r (gu o 18 z_1.2) (gu A 17 z_1.1)) rfl ?_
    refine g_iload_n K dX12_plainWorks_5 rfl 1 rfl ?_
    refine g_aload_n K dX12_plainWorks_6 rfl 0 rfl ?_
    refine mg_20 (v := (o 20)) K hin_X12 (u_999) rfl dX12_plainWorks_7 ?_
    refine g_iadd K dX12_plainWorks_10 ?_
    obtain rfl := Option.some.inj h
    exact hret _ _ _ _ dX12_plainWorks_11 rfl ⟨rfl, rfl⟩

set_option maxRecDepth 100000 in
theorem ctX12_plainWorks {E : gE} {m : Nat} {r : Nat → Nat} (o : Nat → Int32) (A : Nat → Nat → Int32) (x1 : Int32) {res : Int32 × ((Nat → Int32)) × Int32} (h : pX12_plainWorks (o 20) (A 17) (o 18) x1 = some res) : gMi yX12_plainWorks (.code yX12_plainWorks cX12_plainWorks 2 (some .int) :: gU) ({ frames := 5, cells := 0, slots := 0, locals := 171 } : Room) 0 0 E [.ref m, .int x1] (mw E m r o A) (fun v w => v = res.1 ∧ w = mw E m r (gu o 18 res.2.2) (gu A 17 res.2.1)) := by
  refine g_met_i (by decide +kernel) (Nat.le_of_ble_eq_true rfl) (fun Γ K hn hE hRm _ hret => ?_)
  subst hE
  have hlt : ∀ i, i < 2 → i < g_n Γ := fun i q => by rw [hn]; exact q
  refine g_ws (ws' := mw (g_E Γ) m r (gu o 18 (o 18)) (gu A 17 (A 17))) rfl ?_
  refine g_sub (L' := [(0, .ref m), (1, .int x1)]) [0, 1] rfl ?_
  exact wX12_plainWorks K hlt hRm hret (A 17) (o 18) x1 h

