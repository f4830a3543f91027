set_option maxHeartbeats 4000000 in
set_option maxRecDepth 100000 in
theorem wX12_by_43 {Γ : gT} {m : Nat} {r : Nat → Nat} {o : Nat → Int32} {A : Nat → Nat → Int32} (K : gOK Γ cX12_by gU RX12) (hlt : ∀ i, i < 5 → i < g_n Γ) (hRm : g_R Γ = ({ frames := 6, cells := 0, slots := 0, locals := 193 } : Room)) {res : Int32} (hret : ∀ (pc : Nat) (L : List (Nat × Value)) (v : Int32) (w : va_W), decode cX12_by pc = .ok (.ireturn, 1) → narrow .int (.int v) = .int v → (v = res ∧ w = mw (g_E Γ) m r o A) → gGO Γ 0 0 pc L [.int v] w) : ∀ (n : Nat) (x1 : Int32) (x2 : Int32) (x3 : Int32) (x4 : Int32), pX12_by_43 (A 1) n x1 x2 x3 x4 = some res → gGO Γ 0 0 43 [(0, .ref m), (1, .int x1), (2, .int x2), (3, .int x3), (4, .int x4)] [] (mw (g_E Γ) m r o A) := by
  intro n
  induction n with
  | zero => intro _ _ _ _ h; cases h
  | succ n ih =>
    intro x1 x2 x3 x4 h
    simp only [pX12_by_43] at h
    refine g_iload K dX12_by_43 4 rfl ?_
    refine g_aload_n K dX12_by_45 rfl 0 rfl ?_
    refine mg_1 K hin_X12 (u_980) dX12_by_46 ?_
    refine g_bipush (v := 51) K dX12_by_49 (by decide) ?_
    obtain ⟨b_1, h⟩ := gi_none h
    refine g_iald (f := (A 1)) K 1 rfl (ginb_in b_1) dX12_by_51 ?_
    obtain ⟨ht9, hf9⟩ := gi_br h; clear h
    refine g_icmp_ge (tgt := 86) K dX12_by_52 (by decide) (fun qh => ?_) (fun qh => ?_)
    · have h := ht9 qh; clear ht9 hf9
      refine g_sub (L' := [(0, .ref m), (1, .int x1), (2, .int x2), (3, .int x3)]) [0, 1, 2, 3] rfl ?_
      exact wX12_by_86 K hlt hRm hret x1 x2 x3 h
    · have h := hf9 qh; clear ht9 hf9
      refine g_iload_n K dX12_by_55 rfl 3 rfl ?_
      refine g_aload_n K dX12_by_56 rfl 0 rfl ?_
      refine mg_1 K hin_X12 (u_980) dX12_by_57 ?_
      refine g_bipush (v := 31) K dX12_by_60 (by decide) ?_
      refine g_iload K dX12_by_62 4 rfl ?_
      refine g_iadd K dX12_by_64 ?_
      obtain ⟨b_2, h⟩ := gi_none h
      refine g_iald (f := (A 1)) K 1 rfl (ginb_in b_2) dX12_by_65 ?_
      refine g_iload_n K dX12_by_66 rfl 1 rfl ?_
      obtain ⟨ht9, hf9⟩ := gi_br h; clear h
      refine g_icmp_ne (tgt := 77) K dX12_by_67 (by decide) (fun qh => ?_) (fun qh => ?_)
      · have h := hf9 qh; clear ht9 hf9
        refine g_iconst (v := 0) K dX12_by_77 (by decide) ?_
        refine g_ior K dX12_by_78 ?_
        obtain ⟨v_3, ev_3, h⟩ := gi_nm h
        refine g_topi ev_3 ?_
        refine g_istore_n (L' := [(3, .int v_3), (0, .ref m), (1, .int x1), (2, .int x2), (4, .int x4)]) K dX12_by_79 rfl (hlt _ (by decide)) rfl ?_
        refine g_iinc (v := (x4 + 1)) (L' := [(4, .int (x4 + 1)), (3, .int v_3), (0, .ref m), (1, .int x1), (2, .int x2)]) K dX12_by_80 4 rfl rfl (hlt _ (by decide)) rfl ?_
        refine g_goto (tgt := 43) K dX12_by_83 (by decide) ?_
        refine g_sub (L' := [(0, .ref m), (1, .int x1), (2, .int x2), (3, .int v_3), (4, .int (x4 + 1))]) [2, 3, 4, 1, 0] rfl ?_
        exact ih x1 x2 v_3 (x4 + 1) h
      · have h := ht9 qh; clear ht9 hf9
        refine g_iconst (v := 1) K dX12_by_70 (by decide) ?_
        refine g_iload K dX12_by_71 4 rfl ?_
        refine g_ishl K dX12_by_73 ?_
        refine g_goto (tgt := 78) K dX12_by_74 (by decide) ?_
        refine g_ior K dX12_by_78 ?_
        obtain ⟨v_4, ev_4, h⟩ := gi_nm h
        refine g_topi ev_4 ?_
        refine g_istore_n (L' := [(3, .int v_4), (0, .ref m), (1, .int x1), (2, .int x2), (4, .int x4)]) K dX12_by_79 rfl (hlt _ (by decide)) rfl ?_
        refine g_iinc (v := (x4 + 1)) (L' := [(4, .int (x4 + 1)), (3, .int v_4), (0, .ref m), (1, .int x1), (2, .int x2)]) K dX12_by_80 4 rfl rfl (hlt _ (by decide)) rfl ?_
        refine g_goto (tgt := 43) K dX12_by_83 (by decide) ?_
        refine g_sub (L' := [(0, .ref m), (1, .int x1), (2, .int x2), (3, .int v_4), (4, .int (x4 + 1))]) [2, 3, 4, 1, 0] rfl ?_
        exact ih x1 x2 v_4 (x4 + 1) h

set_option maxHeartbeats 4000000 in
set_option maxRecDepth 100000 in
theorem wX12_by {Γ : gT} {m : Nat} {r : Nat → Nat} {o : Nat → Int32} {A : Nat → Nat → Int32} (K : gOK Γ cX12_by gU RX12) (hlt : ∀ i, i < 5 → i < g_n Γ) (hRm : g_R Γ = ({ frames := 6, cells := 0, slots := 0, locals := 193 } : Room)) {res : Int32} (hret : ∀ (pc : Nat) (L : List (Nat × Value)) (v : Int32) (w : va_W), decode cX12_by pc = .ok (.ireturn, 1) → narrow .int (.int v) = .int v → (v = res ∧ w = mw (g_E Γ) m r o A) → gGO Γ 0 0 pc L [.int v] w) (x1 : Int32) (x2 : Int32) (h : pX12_by (A 1) x1 x2 = some res) : gGO Γ 0 0 0 [(0, .ref m), (1, .int x1), (2, .int x2)] [] (mw (g_E Γ) m r o A) := by
    unfold pX12_by at h
    refine g_aload_n K dX12_by_0 rfl 0 rfl ?_
    refine g_iload_n K dX12_by_1 rfl 1 rfl ?_
    obtain ⟨z_1, hz_1, h⟩ := gi_bd h
    refine g_callVi (As := [.int x1]) (bytes := cX12_isChief) (maxL := 2) (ret := (some .boolean)) K (ctX12_isChief o A x1 (res := z_1) hz_1) gc_V_RX12_138_X12_isChief rfl qv_X12_isChief 0 rfl rfl rfl hRm rfl rfl rfl (by decide) (Nat.le_of_ble_eq_true rfl) (by decide) dX12_by_2 (fun v w hw => ?_)
    obtain ⟨hv9, rfl⟩ := hw; have hv9 := hv9.symm; subst hv9
    obtain ⟨ht9, hf9⟩ := gi_br h; clear h
    refine g_if_eq (tgt := 17) K dX12_by_5 (by decide) (fun qh => ?_) (fun qh => ?_)
    · have h := ht9 qh; clear ht9 hf9
      refine g_iconst (v := (-1)) K dX12_by_17 (by decide) ?_
      obtain rfl := Option.some.inj h
      exact hret _ _ _ _ dX12_by_18 rfl ⟨rfl, rfl⟩
    · have h := hf9 qh; clear ht9 hf9
      refine g_iload_n K dX12_by_8 rfl 2 rfl ?_
      refine g_iconst (v := 0) K dX12_by_9 (by decide) ?_
      refine g_iconst (v := 4) K dX12_by_10 (by decide) ?_
      obtain ⟨z_2, hz_2, h⟩ := gi_bd h
      refine g_callSi (As := [.int x2, .int 0, .int 4]) (bytes := cX12_in) (maxL := 3) (ret := (some .boolean)) K (ctX12_in (ws := mw (g_E Γ) m r o A) x2 0 4 (res := z_2) hz_2) gc_S_RX12_50_X12_in rfl qs_X12_in hRm rfl rfl rfl (by decide) (Nat.le_of_ble_eq_true rfl) (by decide) dX12_by_11 (fun v w hw => ?_)
      obtain ⟨hv9, rfl⟩ := hw; have hv9 := hv9.symm; subst hv9
      obtain ⟨ht9, hf9⟩ := gi_br h; clear h
      refine g_if_ne (tgt := 19) K dX12_by_14 (by decide) (fun qh => ?_) (fun qh => ?_)
      · have h := hf9 qh; clear ht9 hf9
        refine g_iload_n K dX12_by_19 rfl 2 rfl ?_
        refine g_iconst (v := 3) K dX12_by_20 (by decide) ?_
        obtain ⟨ht9, hf9⟩ := gi_br h; clear h
        refine g_icmp_ge (tgt := 38) K dX12_by_21 (by decide) (fun qh => ?_) (fun qh => ?_)
        · have h := ht9 qh; clear ht9 hf9
          refine g_iconst (v := 0) K dX12_by_38 (by decide) ?_
          refine g_istore_n (L' := [(3, .int 0), (0, .ref m), (1, .int x1), (2, .int x2)]) K dX12_by_39 rfl (hlt _ (by decide)) rfl ?_
          refine g_iconst (v := 0) K dX12_by_40 (by decide) ?_
          refine g_istore (L' := [(4, .int 0), (3, .int 0), (0, .ref m), (1, .int x1), (2, .int x2)]) K dX12_by_41 (hlt _ (by decide)) rfl ?_
          refine g_sub (L' := [(0, .ref m), (1, .int x1), (2, .int x2), (3, .int 0), (4, .int 0)]) [2, 3, 4, 1, 0] rfl ?_
          exact wX12_by_43 K hlt hRm hret 1000 x1 x2 0 0 h
        · have h := hf9 qh; clear ht9 hf9
          refine g_aload_n K dX12_by_24 rfl 0 rfl ?_
          refine mg_1 K hin_X12 (u_980) dX12_by_25 ?_
          refine g_bipush (v := 60) K dX12_by_28 (by decide) ?_
          refine g_iconst (v := 4) K dX12_by_30 (by decide) ?_
          refine g_iload_n K dX12_by_31 rfl 2 rfl ?_
          refine g_imul K dX12_by_32 ?_
          refine g_iadd K dX12_by_33 ?_
          refine g_iload_n K dX12_by_34 rfl 1 rfl ?_
          refine g_iadd K dX12_by_35 ?_
          obtain ⟨b_3, h⟩ := gi_none h
          refine g_iald (f := (A 1)) K 1 rfl (ginb_in b_3) dX12_by_36 ?_
          obtain rfl := Option.some.inj h
          exact hret _ _ _ _ dX12_by_37 rfl ⟨rfl, rfl⟩
      · have h := ht9 qh; clear ht9 hf9
        refine g_iconst (v := (-1)) K dX12_by_17 (by decide) ?_
        obtain rfl := Option.some.inj h
        exact hret _ _ _ _ dX12_by_18 rfl ⟨rfl, rfl⟩

set_option maxRecDepth 100000 in
theorem ctX12_by {E : gE} {m : Nat} {r : Nat → Nat} (o : Nat → Int32) (A : Nat → Nat → Int32) (x1 : Int32) (x2 : Int32) {res : Int32} (h : pX12_by (A 1) x1 x2 = some res) : gMi yX12_by (.code yX12_by cX12_by 5 (some .int) :: gU) ({ frames := 6, cells := 0, slots := 0, locals := 193 } : Room) 0 0 E [.ref m, .int x1, .int x2] (mw E m r o A) (fun v w => v = res ∧ w = mw E m r o A) := by
  refine g_met_i (by decide +kernel) (Nat.le_of_ble_eq_true rfl) (fun Γ K hn hE hRm _ hret => ?_)
  subst hE
  have hlt : ∀ i, i < 5 → i < g_n Γ := fun i q => by rw [hn]; exact q
  refine g_sub (L' := [(0, .ref m), (1, .int x1), (2, .int x2)]) [0, 1, 2] rfl ?_
  exact wX12_by K hlt hRm hret x1 x2 h

set_option maxHeartbeats 4000000 in
set_option maxRecDepth 100000 in
theorem wX12_move {Γ : gT} {m : Nat} {r : Nat → Nat} {o : Nat → Int32} {A : Nat → Nat → Int32} (K : gOK Γ cX12_move gU RX12) (hlt : ∀ i, i < 4 → i < g_n Γ) (hRm : g_R Γ = ({ frames := 6, cells := 0, slots := 0, locals := 193 } : Room)) {res : Int32 × ((Nat → Int32))} (hret : ∀ (pc : Nat) (L : List (Nat × Value)) (v : Int32) (w : va_W), decode cX12_move pc = .ok (.ireturn, 1) → narrow .int (.int v) = .int v → (v = res.1 ∧ w = mw (g_E Γ) m r o (gu A 1 res.2)) → gGO Γ 0 0 pc L [.int v] w) (a1 : (Nat → Int32)) (x1 : Int32) (x2 : Int32) (h : pX12_move a1 x1 x2 = some res) : gGO Γ 0 0 0 [(0, .ref m), (1, .int x1), (2, .int x2)] [] (mw (g_E Γ) m r o (gu A 1 a1)) := by
    unfold pX12_move at h
    refine g_aload_n K dX12_move_0 rfl 0 rfl ?_
    refine g_iload_n K dX12_move_1 rfl 1 rfl ?_
    obtain ⟨z_1, hz_1, h⟩ := gi_bd h
    refine g_callVi (As := [.int x1]) (bytes := cX12_isWorker) (maxL := 2) (ret := (some .boolean)) K (ctX12_isWorker o (gu A 1 a1) x1 (res := z_1) hz_1) gc_V_RX12_146_X12_isWorker rfl qv_X12_isWorker 0 rfl rfl rfl hRm rfl rfl rfl (by decide) (Nat.le_of_ble_eq_true rfl) (by decide) dX12_move_2 (fun v w hw => ?_)
    obtain ⟨hv9, rfl⟩ := hw; have hv9 := hv9.symm; subst hv9
    obtain ⟨ht9, hf9⟩ := gi_br h; clear h
    refine g_if_eq (tgt := 16) K dX12_move_5 (by decide) (fun qh => ?_) (fun qh => ?_)
    · have h := ht9 qh; clear ht9 hf9
      refine g_iconst (v := (-1)) K dX12_move_16 (by decide) ?_
      obtain rfl := Option.some.inj h
      exact hret _ _ _ _ dX12_move_17 rfl ⟨rfl, rfl⟩
    · have h := hf9 qh; clear ht9 hf9
      refine g_aload_n K dX12_move_8 rfl 0 rfl ?_
      refine g_iload_n K dX12_move_9 rfl 2 rfl ?_
      obtain ⟨z_2, hz_2, h⟩ := gi_bd h
      refine g_callVi (As := [.int x2]) (bytes := cX12_isChief) (maxL := 2) (ret := (some .boolean)) K (ctX12_isChief o (gu A 1 a1) x2 (res := z_2) hz_2) gc_V_RX12_138_X12_isChief rfl qv_X12_isChief 0 rfl rfl rfl hRm rfl rfl rfl (by decide) (Nat.le_of_ble_eq_true rfl) (by decide) dX12_move_10 (fun v w hw => ?_)
      obtain ⟨hv9, rfl⟩ := hw; have hv9 := hv9.symm; subst hv9
      obtain ⟨ht9, hf9⟩ := gi_br h; clear h
      refine g_if_ne (tgt := 18) K dX12_move_13 (by decide) (fun qh => ?_) (fun qh => ?_)
      · have h := hf9 qh; clear ht9 hf9
        refine g_aload_n K dX12_move_18 rfl 0 rfl ?_
        refine mg_1 K hin_X12 (u_980) dX12_move_19 ?_
        refine g_bipush (v := 31) K dX12_move_22 (by decide) ?_
        refine g_iload_n K dX12_move_24 rfl 1 rfl ?_
        refine g_iadd K dX12_move_25 ?_
        obtain ⟨b_3, h⟩ := gi_none h
        refine g_iald (f := a1) K 1 rfl (ginb_in b_3) dX12_move_26 ?_
        obtain ⟨v_4, ev_4, h⟩ := gi_nm h
        refine g_topi ev_4 ?_
        refine g_istore_n (L' := [(3, .int v_4), (0, .ref m), (1, .int x1), (2, .int x2)]) K dX12_move_27 rfl (hlt _ (by decide)) rfl ?_
        refine g_aload_n K dX12_move_28 rfl 1 rfl ?_
        refine mg_1 K hin_X12 (u_980) dX12_move_29 ?_
        refine g_bipush (v := 31) K dX12_move_32 (by decide) ?_
        refine g_iload_n K dX12_move_34 rfl 2 rfl ?_
        refine g_iadd K dX12_move_35 ?_
        refine g_iload_n K dX12_move_36 rfl 3 rfl ?_
        obtain ⟨b_5, h⟩ := gi_none h
        obtain ⟨f_6, ef_6, h⟩ := gi_nm h
        refine g_iast (f := a1) (ws' := mw (g_E Γ) m r o (gu A 1 f_6)) K 1 rfl (ginb_in b_5) dX12_move_37 (by rw [ef_6]; rfl) ?_
        refine g_iload_n K dX12_move_38 rfl 0 rfl ?_
        obtain rfl := Option.some.inj h
        exact hret _ _ _ _ dX12_move_39 rfl ⟨rfl, rfl⟩
      · have h := ht9 qh; clear ht9 hf9
        refine g_iconst (v := (-1)) K dX12_move_16 (by decide) ?_
        obtain rfl := Option.some.inj h
        exact hret _ _ _ _ dX12_move_17 rfl ⟨rfl, rfl⟩

set_option maxRecDepth 100000 in
theorem ctX12_move {E : gE} {m : Nat} {r : Nat → Nat} (o : Nat → Int32) (A : Nat → Nat → Int32) (x1 : Int32) (x2 : Int32) {res : Int32 × ((Nat → Int32))} (h : pX12_move (A 1) x1 x2 = some res) : gMi yX12_move (.code yX12_move cX12_move 4 (some .int) :: gU) ({ frames := 6, cells := 0, slots := 0, locals := 193 } : Room) 0 0 E [.ref m, .int x1, .int x2] (mw E m r o A) (fun v w => v = res.1 ∧ w = mw E m r o (gu A 1 res.2)) := by
  refine g_met_i (by decide +kernel) (Nat.le_of_ble_eq_true rfl) (fun Γ K hn hE hRm _ hret => ?_)
  subst hE
  have hlt : ∀ i, i < 4 → i < g_n Γ := fun i q => by rw [hn]; exact q
  refine g_ws (ws' := mw (g_E Γ) m r o (gu A 1 (A 1))) rfl ?_
  refine g_sub (L' := [(0, .ref m), (1, .int x1), (2, .int x2)]) [0, 1, 2] rfl ?_
  exact wX12_move K hlt hRm hret (A 1) x1 x2 h

set_option maxHeartbeats 4000000 in
set_option maxRecDepth 100000 in
theorem wX12_set_62 {Γ : gT} {m : Nat} {r : Nat → Nat} {o : Nat → Int32} {A : Nat → Nat → Int32} (K : gOK Γ cX12_set gU RX12) (hlt : ∀ i, i < 6 → i < g_n Γ) (hRm : g_R Γ = ({ frames := 6, cells := 0, slots := 0, locals := 193 } : Room)) {res : Int32 × ((Nat → Int32))} (hret : ∀ (pc : Nat) (L : List (Nat × Value)) (v : Int32) (w : va_W), decode cX12_set pc = .ok (.ireturn, 1) → narrow .int (.int v) = .int v → (v = res.1 ∧ w = mw (g_E Γ) m r o (gu A 1 res.2)) → gGO Γ 0 0 pc L [.int v] w) (a1 : (Nat → Int32)) (x1 : Int32) (x3 : Int32) (y0 : Int32) (h : pX12_set_62 a1 x1 x3 y0 = some res) : gGO Γ 0 0 62 [(0, .ref m), (1, .int x1), (3, .int x3)] [.int y0] (mw (g_E Γ) m r o (gu A 1 a1)) := by
    unfold pX12_set_62 at h
    refine g_iload_n K dX12_set_62 rfl 1 rfl ?_
    refine g_iadd K dX12_set_63 ?_
    obtain ⟨v_1, ev_1, h⟩ := gi_nm h
    refine g_topi ev_1 ?_
    refine g_istore (L' := [(4, .int v_1), (0, .ref m), (1, .int x1), (3, .int x3)]) K dX12_set_64 (hlt _ (by decide)) rfl ?_
    refine g_aload_n K dX12_set_66 rfl 1 rfl ?_
    refine mg_1 K hin_X12 (u_980) dX12_set_67 ?_
    refine g_iload K dX12_set_70 0 rfl ?_
    obtain ⟨b_2, h⟩ := gi_none h
    refine g_iald (f := a1) K 1 rfl (ginb_in b_2) dX12_set_72 ?_
    obtain ⟨v_3, ev_3, h⟩ := gi_nm h
    refine g_topi ev_3 ?_
    refine g_istore (L' := [(5, .int v_3), (4, .int v_1), (0, .ref m), (1, .int x1), (3, .int x3)]) K dX12_set_73 (hlt _ (by decide)) rfl ?_
    refine g_aload_n K dX12_set_75 rfl 2 rfl ?_
    refine mg_1 K hin_X12 (u_980) dX12_set_76 ?_
    refine g_iload K dX12_set_79 1 rfl ?_
    refine g_iload_n K dX12_set_81 rfl 4 rfl ?_
    obtain ⟨b_4, h⟩ := gi_none h
    obtain ⟨f_5, ef_5, h⟩ := gi_nm h
    refine g_iast (f := a1) (ws' := mw (g_E Γ) m r o (gu A 1 f_5)) K 1 rfl (ginb_in b_4) dX12_set_82 (by rw [ef_5]; rfl) ?_
    refine g_iload K dX12_set_83 0 rfl ?_
    obtain rfl := Option.some.inj h
    exact hret _ _ _ _ dX12_set_85 rfl ⟨rfl, rfl⟩

set_option maxHeartbeats 4000000 in
set_option maxRecDepth 100000 in
theorem wX12_set_33 {Γ : gT} {m : Nat} {r : Nat → Nat} {o : Nat → Int32} {A : Nat → Nat → Int32} (K : gOK Γ cX12_set gU RX12) (hlt : ∀ i, i < 6 → i < g_n Γ) (hRm : g_R Γ = ({ frames := 6, cells := 0, slots := 0, locals := 193 } : Room)) {res : Int32 × ((Nat → Int32))} (hret : ∀ (pc : Nat) (L : List (Nat × Value)) (v : Int32) (w : va_W), decode cX12_set pc = .ok (.ireturn, 1) → narrow .int (.int v) = .int v → (v = res.1 ∧ w = mw (g_E Γ) m r o (gu A 1 res.2)) → gGO Γ 0 0 pc L [.int v] w) (a1 : (Nat → Int32)) (x1 : Int32) (x2 : Int32) (x3 : Int32) (y0 : Int32) (y1 : Int32) (y2 : Int32) (h : pX12_set_33 a1 x1 x2 x3 y0 y1 y2 = some res) : gGO Γ 0 0 33 [(0, .ref m), (1, .int x1), (2, .int x2), (3, .int x3)] [.int y2, .int y1, .int y0] (mw (g_E Γ) m r o (gu A 1 a1)) := by
    unfold pX12_set_33 at h
    obtain ⟨z_1, hz_1, h⟩ := gi_bd h
    refine g_callSi (As := [.int y0, .int y1, .int y2]) (bytes := cX12_in) (maxL := 3) (ret := (some .boolean)) K (ctX12_in (ws := mw (g_E Γ) m r o (gu A 1 a1)) y0 y1 y2 (res := z_1) hz_1) gc_S_RX12_50_X12_in rfl qs_X12_in hRm rfl rfl rfl (by decide) (Nat.le_of_ble_eq_true rfl) (by decide) dX12_set_33 (fun v w hw => ?_)
    obtain ⟨hv9, rfl⟩ := hw; have hv9 := hv9.symm; subst hv9
    obtain ⟨ht9, hf9⟩ := gi_br h; clear h
    refine g_if_ne (tgt := 42) K dX12_set_36 (by decide) (fun qh => ?_) (fun qh => ?_)
    · have h := hf9 qh; clear ht9 hf9
      refine g_iload_n K dX12_set_42 rfl 2 rfl ?_
      obtain ⟨ht9, hf9⟩ := gi_br h; clear h
      refine g_if_ne (tgt := 50) K dX12_set_43 (by decide) (fun qh => ?_) (fun qh => ?_)
      · have h := hf9 qh; clear ht9 hf9
        refine g_iload_n K dX12_set_50 rfl 2 rfl ?_
        refine g_iconst (v := 1) K dX12_set_51 (by decide) ?_
        obtain ⟨ht9, hf9⟩ := gi_br h; clear h
        refine g_icmp_ne (tgt := 60) K dX12_set_52 (by decide) (fun qh => ?_) (fun qh => ?_)
        · have h := hf9 qh; clear ht9 hf9
          refine g_bipush (v := 41) K dX12_set_60 (by decide) ?_
          refine g_sub (L' := [(0, .ref m), (1, .int x1), (3, .int x3)]) [0, 1, 3] rfl ?_
          exact wX12_set_62 K hlt hRm hret a1 x1 x3 41 h
        · have h := ht9 qh; clear ht9 hf9
          refine g_bipush (v := 11) K dX12_set_55 (by decide) ?_
          refine g_goto (tgt := 62) K dX12_set_57 (by decide) ?_
          refine g_sub (L' := [(0, .ref m), (1, .int x1), (3, .int x3)]) [0, 1, 3] rfl ?_
          exact wX12_set_62 K hlt hRm hret a1 x1 x3 11 h
      · have h := ht9 qh; clear ht9 hf9
        refine g_iconst (v := 1) K dX12_set_46 (by decide) ?_
        refine g_goto (tgt := 62) K dX12_set_47 (by decide) ?_
        refine g_sub (L' := [(0, .ref m), (1, .int x1), (3, .int x3)]) [0, 1, 3] rfl ?_
        exact wX12_set_62 K hlt hRm hret a1 x1 x3 1 h
    · have h := ht9 qh; clear ht9 hf9
      refine g_bipush (v := (-2)) K dX12_set_39 (by decide) ?_
      obtain rfl := Option.some.inj h
      exact hret _ _ _ _ dX12_set_41 rfl ⟨rfl, rfl⟩

set_option maxHeartbeats 4000000 in
set_option maxRecDepth 100000 in
theorem wX12_set {Γ : gT} {m : Nat} {r : Nat → Nat} {o : Nat → Int32} {A : Nat → Nat → Int32} (K : gOK Γ cX12_set gU RX12) (hlt : ∀ i, i < 6 → i < g_n Γ) (hRm : g_R Γ = ({ frames := 6, cells := 0, slots := 0, locals := 193 } : Room)) {res : Int32 × ((Nat → Int32))} (hret : ∀ (pc : Nat) (L : List (Nat × Value)) (v : Int32) (w : va_W), decode cX12_set pc = .ok (.ireturn, 1) → narrow .int (.int v) = .int v → (v = res.1 ∧ w = mw (g_E Γ) m r o (gu A 1 res.2)) → gGO Γ 0 0 pc L [.int v] w) (a1 : (Nat → Int32)) (x1 : Int32) (x2 : Int32) (x3 : Int32) (h : pX12_set a1 x1 x2 x3 = some res) : gGO Γ 0 0 0 [(0, .ref m), (1, .int x1), (2, .int x2), (3, .int x3)] [] (mw (g_E Γ) m r o (gu A 1 a1)) := by
    unfold pX12_set at h
    refine g_aload_n K dX12_set_0 rfl 0 rfl ?_
    refine g_iload_n K dX12_set_1 rfl 1 rfl ?_
    obtain ⟨z_1, hz_1, h⟩ := gi_bd h
    refine g_callVi (As := [.int x1]) (bytes := cX12_isWorker) (maxL := 2) (ret := (some .boolean)) K (ctX12_isWorker o (gu A 1 a1) x1 (res := z_1) hz_1) gc_V_RX12_146_X12_isWorker rfl qv_X12_isWorker 0 rfl rfl rfl hRm rfl rfl rfl (by decide) (Nat.le_of_ble_eq_true rfl) (by decide) dX12_set_2 (fun v w hw => ?_)
    obtain ⟨hv9, rfl⟩ := hw; have hv9 := hv9.symm; subst hv9
    obtain ⟨ht9, hf9⟩ := gi_br h; clear h
    refine g_if_eq (tgt := 17) K dX12_set_5 (by decide) (fun qh => ?_) (fun qh => ?_)
    · have h := ht9 qh; clear ht9 hf9
      refine g_iconst (v := (-1)) K dX12_set_17 (by decide) ?_
      obtain rfl := Option.some.inj h
      exact hret _ _ _ _ dX12_set_18 rfl ⟨rfl, rfl⟩
    · have h := hf9 qh; clear ht9 hf9
      refine g_iload_n K dX12_set_8 rfl 2 rfl ?_
      refine g_iconst (v := 0) K dX12_set_9 (by decide) ?_
      refine g_iconst (v := 2) K dX12_set_10 (by decide) ?_
      obtain ⟨z_2, hz_2, h⟩ := gi_bd h
      refine g_callSi (As := [.int x2, .int 0, .int 2]) (bytes := cX12_in) (maxL := 3) (ret := (some .boolean)) K (ctX12_in (ws := mw (g_E Γ) m r o (gu A 1 a1)) x2 0 2 (res := z_2) hz_2) gc_S_RX12_50_X12_in rfl qs_X12_in hRm rfl rfl rfl (by decide) (Nat.le_of_ble_eq_true rfl) (by decide) dX12_set_11 (fun v w hw => ?_)
      obtain ⟨hv9, rfl⟩ := hw; have hv9 := hv9.symm; subst hv9
      obtain ⟨ht9, hf9⟩ := gi_br h; clear h
      refine g_if_ne (tgt := 19) K dX12_set_14 (by decide) (fun qh => ?_) (fun qh => ?_)
      · have h := hf9 qh; clear ht9 hf9
        refine g_iload_n K dX12_set_19 rfl 3 rfl ?_
        refine g_iconst (v := 0) K dX12_set_20 (by decide) ?_
        refine g_iload_n K dX12_set_21 rfl 2 rfl ?_
        refine g_iconst (v := 2) K dX12_set_22 (by decide) ?_
        obtain ⟨ht9, hf9⟩ := gi_br h; clear h
        refine g_icmp_ne (tgt := 31) K dX12_set_23 (by decide) (fun qh => ?_) (fun qh => ?_)
        · have h := hf9 qh; clear ht9 hf9
          refine g_bipush (v := 99) K dX12_set_31 (by decide) ?_
          exact wX12_set_33 K hlt hRm hret a1 x1 x2 x3 x3 0 99 h
        · have h := ht9 qh; clear ht9 hf9
          refine g_bipush (v := 9) K dX12_set_26 (by decide) ?_
          refine g_goto (tgt := 33) K dX12_set_28 (by decide) ?_
          exact wX12_set_33 K hlt hRm hret a1 x1 x2 x3 x3 0 9 h
      · have h := ht9 qh; clear ht9 hf9
        refine g_iconst (v := (-1)) K dX12_set_17 (by decide) ?_
        obtain rfl := Option.some.inj h
        exact hret _ _ _ _ dX12_set_18 rfl ⟨rfl, rfl⟩

set_option maxRecDepth 100000 in
theorem ctX12_set {E : gE} {m : Nat} {r : Nat → Nat} (o : Nat → Int32) (A : Nat → Nat → Int32) (x1 : Int32) (x2 : Int32) (x3 : Int32) {res : Int32 × ((Nat → Int32))} (h : pX12_set (A 1) x1 x2 x3 = some res) : gMi yX12_set (.code yX12_set cX12_set 6 (some .int) :: gU) ({ frames := 6, cells := 0, slots := 0, locals := 193 } : Room) 0 0 E [.ref m, .int x1, .int x2, .int x3] (mw E m r o A) (fun v w => v = res.1 ∧ w = mw E m r o (gu A 1 res.2)) := by
  refine g_met_i (by decide +kernel) (Nat.le_of_ble_eq_true rfl) (fun Γ K hn hE hRm _ hret => ?_)
  subst hE
  have hlt : ∀ i, i < 6 → i < g_n Γ := fun i q => by rw [hn]; exact q
  refine g_ws (ws' := mw (g_E Γ) m r o (gu A 1 (A 1))) rfl ?_
  refine g_sub (L' := [(0, .ref m), (1, .int x1), (2, .int x2), (3, .int x3)]) [0, 1, 2, 3] rfl ?_
  exact wX12_set K hlt hRm hret (A 1) x1 x2 x3 h

set_option maxHeartbeats 4000000 in
set_option maxRecDepth 100000 in
theorem wX12_fresh {Γ : gT} {m : Nat} {r : Nat → Nat} {o : Nat → Int32} {A : Nat → Nat → Int32} (K : gOK Γ cX12_fresh gU RX12) (hlt : ∀ i, i < 4 → i < g_n Γ) (hRm : g_R Γ = ({ frames := 5, cells := 0, slots := 0, locals := 172 } : Room)) {res : Int32 × ((Nat → Int32))} (hret : ∀ (pc : Nat) (L : List (Nat × Value)) (v : Int32) (w : va_W), decode cX12_fresh pc = .ok (.ireturn, 1) → narrow .int (.int v) = .int v → (v = res.1 ∧ w = mw (g_E Γ) m r o (gu A 1 res.2)) → gGO Γ 0 0 pc L [.int v] w) (a1 : (Nat → Int32)) (x1 : Int32) (x2 : Int32) (h : pX12_fresh a1 x1 x2 = some res) : gGO Γ 0 0 0 [(0, .ref m), (1, .int x1), (2, .int x2)] [] (mw (g_E Γ) m r o (gu A 1 a1)) := by
    unfold pX12_fresh at h
    refine g_iload_n K dX12_fresh_0 rfl 1 rfl ?_
    refine g_iconst (v := 0) K dX12_fresh_1 (by decide) ?_
    refine g_bipush (v := 99) K dX12_fresh_2 (by decide) ?_
    obtain ⟨z_1, hz_1, h⟩ := gi_bd h
    refine g_callSi (As := [.int x1, .int 0, .int 99]) (bytes := cX12_in) (maxL := 3) (ret := (some .boolean)) K (ctX12_in (ws := mw (g_E Γ) m r o (gu A 1 a1)) x1 0 99 (res := z_1) hz_1) gc_S_RX12_50_X12_in rfl qs_X12_in hRm rfl rfl rfl (by decide) (Nat.le_of_ble_eq_true rfl) (by decide) dX12_fresh_4 (fun v w hw => ?_)
    obtain ⟨hv9, rfl⟩ := hw; have hv9 := hv9.symm; subst hv9
    obtain ⟨ht9, hf9⟩ := gi_br h; clear h
    refine g_if_eq (tgt := 20) K dX12_fresh_7 (by decide) (fun qh => ?_) (fun qh => ?_)
    · have h := ht9 qh; clear ht9 hf9
      refine g_bipush (v := (-2)) K dX12_fresh_20 (by decide) ?_
      obtain rfl := Option.some.inj h
      exact hret _ _ _ _ dX12_fresh_22 rfl ⟨rfl, rfl⟩
    · have h := hf9 qh; clear ht9 hf9
      refine g_iload_n K dX12_fresh_10 rfl 2 rfl ?_
      refine g_iconst (v := 0) K dX12_fresh_11 (by decide) ?_
      refine g_bipush (v := 99) K dX12_fresh_12 (by decide) ?_
      obtain ⟨z_2, hz_2, h⟩ := gi_bd h
      refine g_callSi (As := [.int x2, .int 0, .int 99]) (bytes := cX12_in) (maxL := 3) (ret := (some .boolean)) K (ctX12_in (ws := mw (g_E Γ) m r o (gu A 1 a1)) x2 0 99 (res := z_2) hz_2) gc_S_RX12_50_X12_in rfl qs_X12_in hRm rfl rfl rfl (by decide) (Nat.le_of_ble_eq_true rfl) (by decide) dX12_fresh_14 (fun v w hw => ?_)
      obtain ⟨hv9, rfl⟩ := hw; have hv9 := hv9.symm; subst hv9
      obtain ⟨ht9, hf9⟩ := gi_br h; clear h
      refine g_if_ne (tgt := 23) K dX12_fresh_17 (by decide) (fun qh => ?_) (fun qh => ?_)
      · have h := hf9 qh; clear ht9 hf9
        refine g_aload_n K dX12_fresh_23 rfl 0 rfl ?_
        refine mg_1 K hin_X12 (u_980) dX12_fresh_24 ?_
        refine g_bipush (v := 57) K dX12_fresh_27 (by decide) ?_
        obtain ⟨b_3, h⟩ := gi_none h
        refine g_iald (f := a1) K 1 rfl (ginb_in b_3) dX12_fresh_29 ?_
        obtain ⟨v_4, ev_4, h⟩ := gi_nm h
        refine g_topi ev_4 ?_
        refine g_istore_n (L' := [(3, .int v_4), (0, .ref m), (1, .int x1), (2, .int x2)]) K dX12_fresh_30 rfl (hlt _ (by decide)) rfl ?_
        refine g_aload_n K dX12_fresh_31 rfl 1 rfl ?_
        refine mg_1 K hin_X12 (u_980) dX12_fresh_32 ?_
        refine g_bipush (v := 57) K dX12_fresh_35 (by decide) ?_
        refine g_iload_n K dX12_fresh_37 rfl 2 rfl ?_
        obtain ⟨b_5, h⟩ := gi_none h
        obtain ⟨f_6, ef_6, h⟩ := gi_nm h
        refine g_iast (f := a1) (ws' := mw (g_E Γ) m r o (gu A 1 f_6)) K 1 rfl (ginb_in b_5) dX12_fresh_38 (by rw [ef_6]; rfl) ?_
        refine g_aload_n K dX12_fresh_39 rfl 1 rfl ?_
        refine mg_1 K hin_X12 (u_980) dX12_fresh_40 ?_
        refine g_bipush (v := 58) K dX12_fresh_43 (by decide) ?_
        refine g_iload_n K dX12_fresh_45 rfl 3 rfl ?_
        obtain ⟨b_7, h⟩ := gi_none h
        obtain ⟨f_8, ef_8, h⟩ := gi_nm h
        refine g_iast (f := f_6) (ws' := mw (g_E Γ) m r o (gu A 1 f_8)) K 1 rfl (ginb_in b_7) dX12_fresh_46 (by rw [ef_8]; rfl) ?_
        refine g_iload_n K dX12_fresh_47 rfl 0 rfl ?_
        obtain rfl := Option.some.inj h
        exact hret _ _ _ _ dX12_fresh_48 rfl ⟨rfl, rfl⟩
      · have h := ht9 qh; clear ht9 hf9
        refine g_bipush (v := (-2)) K dX12_fresh_20 (by decide) ?_
        obtain rfl := Option.some.inj h
        exact hret _ _ _ _ dX12_fresh_22 rfl ⟨rfl, rfl⟩

set_option maxRecDepth 100000 in
theorem ctX12_fresh {E : gE} {m : Nat} {r : Nat → Nat} (o : Nat → Int32) (A : Nat → Nat → Int32) (x1 : Int32) (x2 : Int32) {res : Int32 × ((Nat → Int32))} (h : pX12_fresh (A 1) x1 x2 = some res) : gMi yX12_fresh (.code yX12_fresh cX12_fresh 4 (some .int) :: gU) ({ frames := 5, cells := 0, slots := 0, locals := 172 } : Room) 0 0 E [.ref m, .int x1, .int x2] (mw E m r o A) (fun v w => v = res.1 ∧ w = mw E m r o (gu A 1 res.2)) := by
  refine g_met_i (by decide +kernel) (Nat.le_of_ble_eq_true rfl) (fun Γ K hn hE hRm _ hret => ?_)
  subst hE
  have hlt : ∀ i, i < 4 → i < g_n Γ := fun i q => by rw [hn]; exact q
  refine g_ws (ws' := mw (g_E Γ) m r o (gu A 1 (A 1))) rfl ?_
  refine g_sub (L' := [(0, .ref m), (1, .int x1), (2, .int x2)]) [0, 1, 2] rfl ?_
  exact wX12_fresh K hlt hRm hret (A 1) x1 x2 h

set_option maxHeartbeats 4000000 in
set_option maxRecDepth 100000 in
theorem wX12_mark {Γ : gT} {m : Nat} {r : Nat → Nat} {o : Nat → Int32} {A : Nat → Nat → Int32} (K : gOK Γ cX12_mark gU RX12) (hlt : ∀ i, i < 3 → i < g_n Γ) (hRm : g_R Γ = ({ frames := 7, cells := 0, slots := 0, locals := 231 } : Room)) {res : Int32 × ((Nat → Int32)) × ((Nat → Int32))} (hret : ∀ (pc : Nat) (L : List (Nat × Value)) (v : Int32) (w : va_W), decode cX12_mark pc = .ok (.ireturn, 1) → narrow .int (.int v) = .int v → (v = res.1 ∧ w = mw (g_E Γ) m r o (gu (gu A 10 res.2.1) 11 res.2.2)) → gGO Γ 0 0 pc L [.int v] w) (a10 : (Nat → Int32)) (a11 : (Nat → Int32)) (x1 : Int32) (x2 : Int32) (h : pX12_mark (A 1) a10 a11 x1 x2 = some res) : gGO Γ 0 0 0 [(0, .ref m), (1, .int x1), (2, .int x2)] [] (mw (g_E Γ) m r o (gu (gu A 10 a10) 11 a11)) := by
    unfold pX12_mark at h
    refine g_aload_n K dX12_mark_0 rfl 0 rfl ?_
    refine g_iload_n K dX12_mark_1 rfl 1 rfl ?_
    obtain ⟨z_1, hz_1, h⟩ := gi_bd h
    refine g_callVi (As := [.int x1]) (bytes := cX12_isWorker) (maxL := 2) (ret := (some .boolean)) K (ctX12_isWorker o (gu (gu A 10 a10) 11 a11) x1 (res := z_1) hz_1) gc_V_RX12_146_X12_isWorker rfl qv_X12_isWorker 0 rfl rfl rfl hRm rfl rfl rfl (by decide) (Nat.le_of_ble_eq_true rfl) (by decide) dX12_mark_2 (fun v w hw => ?_)
    obtain ⟨hv9, rfl⟩ := hw; have hv9 := hv9.symm; subst hv9
    obtain ⟨ht9, hf9⟩ := gi_br h; clear h
    refine g_if_eq (tgt := 25) K dX12_mark_5 (by decide) (fun qh => ?_) (fun qh => ?_)
    · have h := ht9 qh; clear ht9 hf9
      refine g_sipush (v := (-1001)) K dX12_mark_25 (by decide) ?_
      obtain rfl := Option.some.inj h
      exact hret _ _ _ _ dX12_mark_28 rfl ⟨rfl, rfl⟩
    · have h := hf9 qh; clear ht9 hf9
      refine g_aload_n K dX12_mark_8 rfl 0 rfl ?_
      refine g_iload_n K dX12_mark_9 rfl 2 rfl ?_
      obtain ⟨z_2, hz_2, h⟩ := gi_bd h
      refine g_callVi (As := [.int x2]) (bytes := cX12_isChief) (maxL := 2) (ret := (some .boolean)) K (ctX12_isChief o (gu (gu A 10 a10) 11 a11) x2 (res := z_2) hz_2) gc_V_RX12_138_X12_isChief rfl qv_X12_isChief 0 rfl rfl rfl hRm rfl rfl rfl (by decide) (Nat.le_of_ble_eq_true rfl) (by decide) dX12_mark_10 (fun v w hw => ?_)
      obtain ⟨hv9, rfl⟩ := hw; have hv9 := hv9.symm; subst hv9
      obtain ⟨ht9, hf9⟩ := gi_br h; clear h
      refine g_if_eq (tgt := 25) K dX12_mark_13 (by decide) (fun qh => ?_) (fun qh => ?_)
      · have h := ht9 qh; clear ht9 hf9
        refine g_sipush (v := (-1001)) K dX12_mark_25 (by decide) ?_
        obtain rfl := Option.some.inj h
        exact hret _ _ _ _ dX12_mark_28 rfl ⟨rfl, rfl⟩
      · have h := hf9 qh; clear ht9 hf9
        refine g_aload_n K dX12_mark_16 rfl 0 rfl ?_
        refine g_iload_n K dX12_mark_17 rfl 1 rfl ?_
        refine g_iload_n K dX12_mark_18 rfl 2 rfl ?_
        obtain ⟨z_3, hz_3, h⟩ := gi_bd h
        refine g_callVi (As := [.int x1, .int x2]) (bytes := cX12_markOf) (maxL := 8) (ret := (some .int)) K (ctX12_markOf o (gu (gu A 10 a10) 11 a11) x1 x2 (res := z_3) hz_3) gc_V_RX12_182_X12_markOf rfl qv_X12_markOf 0 rfl rfl rfl hRm rfl rfl rfl (by decide) (Nat.le_of_ble_eq_true rfl) (by decide) dX12_mark_19 (fun v w hw => ?_)
        obtain ⟨hv9, rfl⟩ := hw; have hv9 := hv9.symm; subst hv9
        refine g_ws (ws' := mw (g_E Γ) m r o (gu (gu A 10 z_3.2.1) 11 z_3.2.2)) rfl ?_
        refine g_goto (tgt := 28) K dX12_mark_22 (by decide) ?_
        obtain rfl := Option.some.inj h
        exact hret _ _ _ _ dX12_mark_28 rfl ⟨rfl, rfl⟩

set_option maxRecDepth 100000 in
theorem ctX12_mark {E : gE} {m : Nat} {r : Nat → Nat} (o : Nat → Int32) (A : Nat → Nat → Int32) (x1 : Int32) (x2 : Int32) {res : Int32 × ((Nat → Int32)) × ((Nat → Int32))} (h : pX12_mark (A 1) (A 10) (A 11) x1 x2 = some res) : gMi yX12_mark (.code yX12_mark cX12_mark 3 (some .int) :: gU) ({ frames := 7, cells := 0, slots := 0, locals := 231 } : Room) 0 0 E [.ref m, .int x1, .int x2] (mw E m r o A) (fun v w => v = res.1 ∧ w = mw E m r o (gu (gu A 10 res.2.1) 11 res.2.2)) := by
  refine g_met_i (by decide +kernel) (Nat.le_of_ble_eq_true rfl) (fun Γ K hn hE hRm _ hret => ?_)
  subst hE
  have hlt : ∀ i, i < 3 → i < g_n Γ := fun i q => by rw [hn]; exact q
  refine g_ws (ws' := mw (g_E Γ) m r o (gu (gu A 10 (A 10)) 11 (A 11))) rfl ?_
  refine g_sub (L' := [(0, .ref m), (1, .int x1), (2, .int x2)]) [0, 1, 2] rfl ?_
  exact wX12_mark K hlt hRm hret (A 10) (A 11) x1 x2 h

set_option maxHeartbeats 4000000 in
set_option maxRecDepth 100000 in
theorem wX12_wrong_89 {Γ : gT} {m : Nat} {r : Nat → Nat} {o : Nat → Int32} {A : Nat → Nat → Int32} (K : gOK Γ cX12_wrong gU RX12) (hlt : ∀ i, i < 6 → i < g_n Γ) (hRm : g_R Γ = ({ frames := 9, cells := 0, slots := 0, locals := 265 } : Room)) {res : Int32 × ((Nat → Int32)) × ((Nat → Int32)) × ((Nat → Int32)) × ((Nat → Int32)) × ((Nat → Int32)) × ((Nat → Int32))} (hret : ∀ (pc : Nat) (L : List (Nat × Value)) (v : Int32) (w : va_W), decode cX12_wrong pc = .ok (.ireturn, 1) → narrow .int (.int v) = .int v → (v = res.1 ∧ w = mw (g_E Γ) m r o (gu (gu (gu (gu (gu (gu A 10 res.2.1) 11 res.2.2.1) 12 res.2.2.2.1) 13 res.2.2.2.2.1) 14 res.2.2.2.2.2.1) 15 res.2.2.2.2.2.2)) → gGO Γ 0 0 pc L [.int v] w) {k26 : (Nat → Int32) → (Nat → Int32) → (Nat → Int32) → (Nat → Int32) → (Nat → Int32) → (Nat → Int32) → Int32 → Int32 → Int32 → Int32 → Option (Int32 × ((Nat → Int32)) × ((Nat → Int32)) × ((Nat → Int32)) × ((Nat → Int32)) × ((Nat → Int32)) × ((Nat → Int32)))} (hk26 : ∀ (a10 : (Nat → Int32)) (a11 : (Nat → Int32)) (a12 : (Nat → Int32)) (a13 : (Nat → Int32)) (a14 : (Nat → Int32)) (a15 : (Nat → Int32)) (x1 : Int32) (x2 : Int32) (x3 : Int32) (x4 : Int32), k26 a10 a11 a12 a13 a14 a15 x1 x2 x3 x4 = some res → gGO Γ 0 0 26 [(0, .ref m), (1, .int x1), (2, .int x2), (3, .int x3), (4, .int x4)] [] (mw (g_E Γ) m r o (gu (gu (gu (gu (gu (gu A 10 a10) 11 a11) 12 a12) 13 a13) 14 a14) 15 a15))) (a10 : (Nat → Int32)) (a11 : (Nat → Int32)) (a12 : (Nat → Int32)) (a13 : (Nat → Int32)) (a14 : (Nat → Int32)) (a15 : (Nat → Int32)) (x1 : Int32) (x2 : Int32) (x3 : Int32) (x4 : Int32) (y0 : Int32) (h : pX12_wrong_89 k26 (A 1) a10 a11 a12 a13 a14 a15 x1 x2 x3 x4 y0 = some res) : gGO Γ 0 0 89 [(0, .ref m), (1, .int x1), (2, .int x2), (3, .int x3), (4, .int x4)] [.int y0] (mw (g_E Γ) m r o (gu (gu (gu (gu (gu (gu A 10 a10) 11 a11) 12 a12) 13 a13) 14 a14) 15 a15)) := by
    unfold pX12_wrong_89 at h
    refine g_istore (L' := [(5, .int y0), (0, .ref m), (1, .int x1), (2, .int x2), (3, .int x3), (4, .int x4)]) K dX12_wrong_89 (hlt _ (by decide)) rfl ?_
    refine g_iload_n K dX12_wrong_91 rfl 3 rfl ?_
    refine g_iload K dX12_wrong_92 0 rfl ?_
    obtain ⟨ht9, hf9⟩ := gi_br h; clear h
    refine g_if_eq (tgt := 104) K dX12_wrong_94 (by decide) (fun qh => ?_) (fun qh => ?_)
    · have h := ht9 qh; clear ht9 hf9
      refine g_iconst (v := 0) K dX12_wrong_104 (by decide) ?_
      refine g_ior K dX12_wrong_105 ?_
      obtain ⟨v_1, ev_1, h⟩ := gi_nm h
      refine g_topi ev_1 ?_
      refine g_istore_n (L' := [(2, .int v_1), (5, .int y0), (0, .ref m), (1, .int x1), (3, .int x3), (4, .int x4)]) K dX12_wrong_106 rfl (hlt _ (by decide)) rfl ?_
      refine g_iload_n K dX12_wrong_107 rfl 4 rfl ?_
      refine g_aload_n K dX12_wrong_108 rfl 2 rfl ?_
      refine mg_13 K hin_X12 (u_992) dX12_wrong_109 ?_
      refine g_iload K dX12_wrong_112 5 rfl ?_
      obtain ⟨b_2, h⟩ := gi_none h
      refine g_iald (f := a13) K 7 rfl (ginb_in b_2) dX12_wrong_114 ?_
      refine g_iadd K dX12_wrong_115 ?_
      obtain ⟨v_3, ev_3, h⟩ := gi_nm h
      refine g_topi ev_3 ?_
      refine g_istore_n (L' := [(3, .int v_3), (2, .int v_1), (5, .int y0), (0, .ref m), (1, .int x1), (4, .int x4)]) K dX12_wrong_116 rfl (hlt _ (by decide)) rfl ?_
      refine g_iinc (v := (x4 + 1)) (L' := [(4, .int (x4 + 1)), (3, .int v_3), (2, .int v_1), (5, .int y0), (0, .ref m), (1, .int x1)]) K dX12_wrong_117 5 rfl rfl (hlt _ (by decide)) rfl ?_
      refine g_goto (tgt := 26) K dX12_wrong_120 (by decide) ?_
      refine g_sub (L' := [(0, .ref m), (1, .int x1), (2, .int v_1), (3, .int v_3), (4, .int (x4 + 1))]) [4, 5, 2, 1, 0] rfl ?_
      exact hk26 a10 a11 a12 a13 a14 a15 x1 v_1 v_3 (x4 + 1) h
    · have h := hf9 qh; clear ht9 hf9
      refine g_iconst (v := 1) K dX12_wrong_97 (by decide) ?_
      refine g_iload K dX12_wrong_98 5 rfl ?_
      refine g_ishl K dX12_wrong_100 ?_
      refine g_goto (tgt := 105) K dX12_wrong_101 (by decide) ?_
      refine g_ior K dX12_wrong_105 ?_
      obtain ⟨v_4, ev_4, h⟩ := gi_nm h
      refine g_topi ev_4 ?_
      refine g_istore_n (L' := [(2, .int v_4), (5, .int y0), (0, .ref m), (1, .int x1), (3, .int x3), (4, .int x4)]) K dX12_wrong_106 rfl (hlt _ (by decide)) rfl ?_
      refine g_iload_n K dX12_wrong_107 rfl 4 rfl ?_
      refine g_aload_n K dX12_wrong_108 rfl 2 rfl ?_
      refine mg_13 K hin_X12 (u_992) dX12_wrong_109 ?_
      refine g_iload K dX12_wrong_112 5 rfl ?_
      obtain ⟨b_5, h⟩ := gi_none h
      refine g_iald (f := a13) K 7 rfl (ginb_in b_5) dX12_wrong_114 ?_
      refine g_iadd K dX12_wrong_115 ?_
      obtain ⟨v_6, ev_6, h⟩ := gi_nm h
      refine g_topi ev_6 ?_
      refine g_istore_n (L' := [(3, .int v_6), (2, .int v_4), (5, .int y0), (0, .ref m), (1, .int x1), (4, .int x4)]) K dX12_wrong_116 rfl (hlt _ (by decide)) rfl ?_
      refine g_iinc (v := (x4 + 1)) (L' := [(4, .int (x4 + 1)), (3, .int v_6), (2, .int v_4), (5, .int y0), (0, .ref m), (1, .int x1)]) K dX12_wrong_117 5 rfl rfl (hlt _ (by decide)) rfl ?_
      refine g_goto (tgt := 26) K dX12_wrong_120 (by decide) ?_
      refine g_sub (L' := [(0, .ref m), (1, .int x1), (2, .int v_4), (3, .int v_6), (4, .int (x4 + 1))]) [4, 5, 2, 1, 0] rfl ?_
      exact hk26 a10 a11 a12 a13 a14 a15 x1 v_4 v_6 (x4 + 1) h

set_option maxHeartbeats 4000000 in
set_option maxRecDepth 100000 in
theorem wX12_wrong_26 {Γ : gT} {m : Nat} {r : Nat → Nat} {o : Nat → Int32} {A : Nat → Nat → Int32} (K : gOK Γ cX12_wrong gU RX12) (hlt : ∀ i, i < 6 → i < g_n Γ) (hRm : g_R Γ = ({ frames := 9, cells := 0, slots := 0, locals := 265 } : Room)) {res : Int32 × ((Nat → Int32)) × ((Nat → Int32)) × ((Nat → Int32)) × ((Nat → Int32)) × ((Nat → Int32)) × ((Nat → Int32))} (hret : ∀ (pc : Nat) (L : List (Nat × Value)) (v : Int32) (w : va_W), decode cX12_wrong pc = .ok (.ireturn, 1) → narrow .int (.int v) = .int v → (v = res.1 ∧ w = mw (g_E Γ) m r o (gu (gu (gu (gu (gu (gu A 10 res.2.1) 11 res.2.2.1) 12 res.2.2.2.1) 13 res.2.2.2.2.1) 14 res.2.2.2.2.2.1) 15 res.2.2.2.2.2.2)) → gGO Γ 0 0 pc L [.int v] w) : ∀ (n : Nat) (a10 : (Nat → Int32)) (a11 : (Nat → Int32)) (a12 : (Nat → Int32)) (a13 : (Nat → Int32)) (a14 : (Nat → Int32)) (a15 : (Nat → Int32)) (x1 : Int32) (x2 : Int32) (x3 : Int32) (x4 : Int32), pX12_wrong_26 (A 1) n a10 a11 a12 a13 a14 a15 x1 x2 x3 x4 = some res → gGO Γ 0 0 26 [(0, .ref m), (1, .int x1), (2, .int x2), (3, .int x3), (4, .int x4)] [] (mw (g_E Γ) m r o (gu (gu (gu (gu (gu (gu A 10 a10) 11 a11) 12 a12) 13 a13) 14 a14) 15 a15)) := by
  intro n
  induction n with
  | zero => intro _ _ _ _ _ _ _ _ _ _ h; cases h
  | succ n ih =>
    intro a10 a11 a12 a13 a14 a15 x1 x2 x3 x4 h
    simp only [pX12_wrong_26] at h
    refine g_iload K dX12_wrong_26 4 rfl ?_
    refine g_aload_n K dX12_wrong_28 rfl 0 rfl ?_
    refine mg_1 K hin_X12 (u_980) dX12_wrong_29 ?_
    refine g_bipush (v := 51) K dX12_wrong_32 (by decide) ?_
    obtain ⟨b_1, h⟩ := gi_none h
    refine g_iald (f := (A 1)) K 1 rfl (ginb_in b_1) dX12_wrong_34 ?_
    obtain ⟨ht9, hf9⟩ := gi_br h; clear h
    refine g_icmp_ge (tgt := 123) K dX12_wrong_35 (by decide) (fun qh => ?_) (fun qh => ?_)
    · have h := ht9 qh; clear ht9 hf9
      refine g_iload_n K dX12_wrong_123 rfl 1 rfl ?_
      refine g_iconst (v := 2) K dX12_wrong_124 (by decide) ?_
      obtain ⟨ht9, hf9⟩ := gi_br h; clear h
      refine g_icmp_ne (tgt := 132) K dX12_wrong_125 (by decide) (fun qh => ?_) (fun qh => ?_)
      · have h := hf9 qh; clear ht9 hf9
        refine g_iload_n K dX12_wrong_132 rfl 2 rfl ?_
        obtain rfl := Option.some.inj h
        exact hret _ _ _ _ dX12_wrong_133 rfl ⟨rfl, rfl⟩
      · have h := ht9 qh; clear ht9 hf9
        refine g_iload_n K dX12_wrong_128 rfl 3 rfl ?_
        refine g_goto (tgt := 133) K dX12_wrong_129 (by decide) ?_
        obtain rfl := Option.some.inj h
        exact hret _ _ _ _ dX12_wrong_133 rfl ⟨rfl, rfl⟩
    · have h := hf9 qh; clear ht9 hf9
      refine g_iload_n K dX12_wrong_38 rfl 1 rfl ?_
      obtain ⟨ht9, hf9⟩ := gi_br h; clear h
      refine g_if_ne (tgt := 67) K dX12_wrong_39 (by decide) (fun qh => ?_) (fun qh => ?_)
      · have h := hf9 qh; clear ht9 hf9
        refine g_aload_n K dX12_wrong_67 rfl 0 rfl ?_
        refine mg_13 K hin_X12 (u_992) dX12_wrong_68 ?_
        refine g_iload K dX12_wrong_71 4 rfl ?_
        obtain ⟨b_2, h⟩ := gi_none h
        refine g_iald (f := a13) K 7 rfl (ginb_in b_2) dX12_wrong_73 ?_
        refine g_aload_n K dX12_wrong_74 rfl 0 rfl ?_
        refine mg_14 K hin_X12 (u_993) dX12_wrong_75 ?_
        refine g_iload K dX12_wrong_78 4 rfl ?_
        obtain ⟨b_3, h⟩ := gi_none h
        refine g_iald (f := a14) K 8 rfl (ginb_in b_3) dX12_wrong_80 ?_
        obtain ⟨ht9, hf9⟩ := gi_br h; clear h
        refine g_icmp_ge (tgt := 88) K dX12_wrong_81 (by decide) (fun qh => ?_) (fun qh => ?_)
        · have h := ht9 qh; clear ht9 hf9
          refine g_iconst (v := 0) K dX12_wrong_88 (by decide) ?_
          exact wX12_wrong_89 K hlt hRm hret ih a10 a11 a12 a13 a14 a15 x1 x2 x3 x4 0 h
        · have h := hf9 qh; clear ht9 hf9
          refine g_iconst (v := 1) K dX12_wrong_84 (by decide) ?_
          refine g_goto (tgt := 89) K dX12_wrong_85 (by decide) ?_
          exact wX12_wrong_89 K hlt hRm hret ih a10 a11 a12 a13 a14 a15 x1 x2 x3 x4 1 h
      · have h := ht9 qh; clear ht9 hf9
        refine g_aload_n K dX12_wrong_42 rfl 0 rfl ?_
        refine mg_13 K hin_X12 (u_992) dX12_wrong_43 ?_
        refine g_iload K dX12_wrong_46 4 rfl ?_
        obtain ⟨b_4, h⟩ := gi_none h
        refine g_iald (f := a13) K 7 rfl (ginb_in b_4) dX12_wrong_48 ?_
        refine g_aload_n K dX12_wrong_49 rfl 0 rfl ?_
        refine mg_14 K hin_X12 (u_993) dX12_wrong_50 ?_
        refine g_iload K dX12_wrong_53 4 rfl ?_
        obtain ⟨b_5, h⟩ := gi_none h
        refine g_iald (f := a14) K 8 rfl (ginb_in b_5) dX12_wrong_55 ?_
        obtain ⟨ht9, hf9⟩ := gi_br h; clear h
        refine g_icmp_eq (tgt := 63) K dX12_wrong_56 (by decide) (fun qh => ?_) (fun qh => ?_)
        · have h := ht9 qh; clear ht9 hf9
          refine g_iconst (v := 0) K dX12_wrong_63 (by decide) ?_
          refine g_goto (tgt := 89) K dX12_wrong_64 (by decide) ?_
          exact wX12_wrong_89 K hlt hRm hret ih a10 a11 a12 a13 a14 a15 x1 x2 x3 x4 0 h
        · have h := hf9 qh; clear ht9 hf9
          refine g_iconst (v := 1) K dX12_wrong_59 (by decide) ?_
          refine g_goto (tgt := 89) K dX12_wrong_60 (by decide) ?_
          exact wX12_wrong_89 K hlt hRm hret ih a10 a11 a12 a13 a14 a15 x1 x2 x3 x4 1 h

set_option maxHeartbeats 4000000 in
set_option maxRecDepth 100000 in
theorem wX12_wrong {Γ : gT} {m : Nat} {r : Nat → Nat} {o : Nat → Int32} {A : Nat → Nat → Int32} (K : gOK Γ cX12_wrong gU RX12) (hlt : ∀ i, i < 6 → i < g_n Γ) (hRm : g_R Γ = ({ frames := 9, cells := 0, slots := 0, locals := 265 } : Room)) {res : Int32 × ((Nat → Int32)) × ((Nat → Int32)) × ((Nat → Int32)) × ((Nat → Int32)) × ((Nat → Int32)) × ((Nat → Int32))} (hret : ∀ (pc : Nat) (L : List (Nat × Value)) (v : Int32) (w : va_W), decode cX12_wrong pc = .ok (.ireturn, 1) → narrow .int (.int v) = .int v → (v = res.1 ∧ w = mw (g_E Γ) m r o (gu (gu (gu (gu (gu (gu A 10 res.2.1) 11 res.2.2.1) 12 res.2.2.2.1) 13 res.2.2.2.2.1) 14 res.2.2.2.2.2.1) 15 res.2.2.2.2.2.2)) → gGO Γ 0 0 pc L [.int v] w) (a10 : (Nat → Int32)) (a11 : (Nat → Int32)) (a12 : (Nat → Int32)) (a13 : (Nat → Int32)) (a14 : (Nat → Int32)) (a15 : (Nat → Int32)) (x1 : Int32) (h : pX12_wrong (A 1) a10 a11 a12 a13 a14 a15 x1 = some res) : gGO Γ 0 0 0 [(0, .ref m), (1, .int x1)] [] (mw (g_E Γ) m r o (gu (gu (gu (gu (gu (gu A 10 a10) 11 a11) 12 a12) 13 a13) 14 a14) 15 a15)) := by
    unfold pX12_wrong at h
    refine g_iload_n K dX12_wrong_0 rfl 1 rfl ?_
    refine g_iconst (v := 0) K dX12_wrong_1 (by decide) ?_
    refine g_iconst (v := 2) K dX12_wrong_2 (by decide) ?_
    obtain ⟨z_1, hz_1, h⟩ := gi_bd h
    refine g_callSi (As := [.int x1, .int 0, .int 2]) (bytes := cX12_in) (maxL := 3) (ret := (some .boolean)) K (ctX12_in (ws := mw (g_E Γ) m r o (gu (gu (gu (gu (gu (gu A 10 a10) 11 a11) 12 a12) 13 a13) 14 a14) 15 a15)) x1 0 2 (res := z_1) hz_1) gc_S_RX12_50_X12_in rfl qs_X12_in hRm rfl rfl rfl (by decide) (Nat.le_of_ble_eq_true rfl) (by decide) dX12_wrong_3 (fun v w hw => ?_)
    obtain ⟨hv9, rfl⟩ := hw; have hv9 := hv9.symm; subst hv9
    obtain ⟨ht9, hf9⟩ := gi_br h; clear h
    refine g_if_ne (tgt := 11) K dX12_wrong_6 (by decide) (fun qh => ?_) (fun qh => ?_)
    · have h := hf9 qh; clear ht9 hf9
      refine g_aload_n K dX12_wrong_11 rfl 0 rfl ?_
      obtain ⟨z_2, hz_2, h⟩ := gi_bd h
      refine g_callVv (As := []) (bytes := cX12_duesAll) (maxL := 2) (ret := none) K (ctX12_duesAll o (gu (gu (gu (gu (gu (gu A 10 a10) 11 a11) 12 a12) 13 a13) 14 a14) 15 a15) (res := z_2) hz_2) gc_V_RX12_194_X12_duesAll rfl qv_X12_duesAll 0 rfl rfl rfl hRm rfl rfl rfl (by decide) (Nat.le_of_ble_eq_true rfl) (by decide) dX12_wrong_12 (fun w hw => ?_)
      subst hw
      refine g_ws (ws' := mw (g_E Γ) m r o (gu (gu (gu (gu (gu (gu A 10 a10) 11 a11) 12 z_2.1) 13 a13) 14 z_2.2.1) 15 z_2.2.2)) rfl ?_
      refine g_aload_n K dX12_wrong_15 rfl 0 rfl ?_
      obtain ⟨z_3, hz_3, h⟩ := gi_bd h
      refine g_callVv (As := []) (bytes := cX12_gradesAll) (maxL := 2) (ret := none) K (ctX12_gradesAll o (gu (gu (gu (gu (gu (gu A 10 a10) 11 a11) 12 z_2.1) 13 a13) 14 z_2.2.1) 15 z_2.2.2) (res := z_3) hz_3) gc_V_RX12_191_X12_gradesAll rfl qv_X12_gradesAll 0 rfl rfl rfl hRm rfl rfl rfl (by decide) (Nat.le_of_ble_eq_true rfl) (by decide) dX12_wrong_16 (fun w hw => ?_)
      subst hw
      refine g_ws (ws' := mw (g_E Γ) m r o (gu (gu (gu (gu (gu (gu A 10 z_3.1) 11 z_3.2.1) 12 z_3.2.2.1) 13 z_3.2.2.2.1) 14 z_2.2.1) 15 z_3.2.2.2.2)) rfl ?_
      refine g_iconst (v := 0) K dX12_wrong_19 (by decide) ?_
      refine g_istore_n (L' := [(2, .int 0), (0, .ref m), (1, .int x1)]) K dX12_wrong_20 rfl (hlt _ (by decide)) rfl ?_
      refine g_iconst (v := 0) K dX12_wrong_21 (by decide) ?_
      refine g_istore_n (L' := [(3, .int 0), (2, .int 0), (0, .ref m), (1, .int x1)]) K dX12_wrong_22 rfl (hlt _ (by decide)) rfl ?_
      refine g_iconst (v := 0) K dX12_wrong_23 (by decide) ?_
      refine g_istore (L' := [(4, .int 0), (3, .int 0), (2, .int 0), (0, .ref m), (1, .int x1)]) K dX12_wrong_24 (hlt _ (by decide)) rfl ?_
      refine g_sub (L' := [(0, .ref m), (1, .int x1), (2, .int 0), (3, .int 0), (4, .int 0)]) [3, 4, 2, 1, 0] rfl ?_
      exact wX12_wrong_26 K hlt hRm hret 1000 z_3.1 z_3.2.1 z_3.2.2.1 z_3.2.2.2.1 z_2.2.1 z_3.2.2.2.2 x1 0 0 0 h
    · have h := ht9 qh; clear ht9 hf9
      refine g_iconst (v := (-1)) K dX12_wrong_9 (by decide) ?_
      obtain rfl := Option.some.inj h
      exact hret _ _ _ _ dX12_wrong_10 rfl ⟨rfl, rfl⟩

set_option maxRecDepth 100000 in
theorem ctX12_wrong {E : gE} {m : Nat} {r : Nat → Nat} (o : Nat → Int32) (A : Nat → Nat → Int32) (x1 : Int32) {res : Int32 × ((Nat → Int32)) × ((Nat → Int32)) × ((Nat → Int32)) × ((Nat → Int32)) × ((Nat → Int32)) × ((Nat → Int32))} (h : pX12_wrong (A 1) (A 10) (A 11) (A 12) (A 13) (A 14) (A 15) x1 = some res) : gMi yX12_wrong (.code yX12_wrong cX12_wrong 6 (some .int) :: gU) ({ frames := 9, cells := 0, slots := 0, locals := 265 } : Room) 0 0 E [.ref m, .int x1] (mw E m r o A) (fun v w => v = res.1 ∧ w = mw E m r o (gu (gu (gu (gu (gu (gu A 10 res.2.1) 11 res.2.2.1) 12 res.2.2.2.1) 13 res.2.2.2.2.1) 14 res.2.2.2.2.2.1) 15 res.2.2.2.2.2.2)) := by
  refine g_met_i (by decide +kernel) (Nat.le_of_ble_eq_true rfl) (fun Γ K hn hE hRm _ hret => ?_)
  subst hE
  have hlt : ∀ i, i < 6 → i < g_n Γ := fun i q => by rw [hn]; exact q
  refine g_ws (ws' := mw (g_E Γ) m r o (gu (gu (gu (gu (gu (gu A 10 (A 10)) 11 (A 11)) 12 (A 12)) 13 (A 13)) 14 (A 14)) 15 (A 15))) rfl ?_
  refine g_sub (L' := [(0, .ref m), (1, .int x1)]) [0, 1] rfl ?_
  exact wX12_wrong K hlt hRm hret (A 10) (A 11) (A 12) (A 13) (A 14) (A 15) x1 h

set_option maxHeartbeats 4000000 in
set_option maxRecDepth 100000 in
theorem wX12_movedOf {Γ : gT} {m : Nat} {r : Nat → Nat} {o : Nat → Int32} {A : Nat → Nat → Int32} (K : gOK Γ cX12_movedOf gU RX12) (hlt : ∀ i, i < 4 → i < g_n Γ) (hRm : g_R Γ = ({ frames := 9, cells := 0, slots := 0, locals := 265 } : Room)) {res : Int32 × ((Nat → Int32)) × ((Nat → Int32)) × ((Nat → Int32)) × ((Nat → Int32)) × ((Nat → Int32)) × ((Nat → Int32))} (hret : ∀ (pc : Nat) (L : List (Nat × Value)) (v : Int32) (w : va_W), decode cX12_movedOf pc = .ok (.ireturn, 1) → narrow .int (.int v) = .int v → (v = res.1 ∧ w = mw (g_E Γ) m r o (gu (gu (gu (gu (gu (gu A 1 res.2.1) 10 res.2.2.1) 11 res.2.2.2.1) 12 res.2.2.2.2.1) 13 res.2.2.2.2.2.1) 15 res.2.2.2.2.2.2)) → gGO Γ 0 0 pc L [.int v] w) (a1 : (Nat → Int32)) (a10 : (Nat → Int32)) (a11 : (Nat → Int32)) (a12 : (Nat → Int32)) (a13 : (Nat → Int32)) (a15 : (Nat → Int32)) (x1 : Int32) (x2 : Int32) (h : pX12_movedOf a1 a10 a11 a12 a13 a15 x1 x2 = some res) : gGO Γ 0 0 0 [(0, .ref m), (1, .int x1), (2, .int x2)] [] (mw (g_E Γ) m r o (gu (gu (gu (gu (gu (gu A 1 a1) 10 a10) 11 a11) 12 a12) 13 a13) 15 a15)) := by
    unfold pX12_movedOf at h
    refine g_aload_n K dX12_movedOf_0 rfl 0 rfl ?_
    refine mg_1 K hin_X12 (u_980) dX12_movedOf_1 ?_
    refine g_bipush (v := 31) K dX12_movedOf_4 (by decide) ?_
    refine g_iload_n K dX12_movedOf_6 rfl 1 rfl ?_
    refine g_iadd K dX12_movedOf_7 ?_
    obtain ⟨b_1, h⟩ := gi_none h
    refine g_iald (f := a1) K 1 rfl (ginb_in b_1) dX12_movedOf_8 ?_
    obtain ⟨v_2, ev_2, h⟩ := gi_nm h
    refine g_topi ev_2 ?_
    refine g_istore_n (L' := [(3, .int v_2), (0, .ref m), (1, .int x1), (2, .int x2)]) K dX12_movedOf_9 rfl (hlt _ (by decide)) rfl ?_
    refine g_aload_n K dX12_movedOf_10 rfl 1 rfl ?_
    refine mg_1 K hin_X12 (u_980) dX12_movedOf_11 ?_
    refine g_bipush (v := 31) K dX12_movedOf_14 (by decide) ?_
    refine g_iload_n K dX12_movedOf_16 rfl 2 rfl ?_
    refine g_iadd K dX12_movedOf_17 ?_
    refine g_iload_n K dX12_movedOf_18 rfl 3 rfl ?_
    obtain ⟨b_3, h⟩ := gi_none h
    obtain ⟨f_4, ef_4, h⟩ := gi_nm h
    refine g_iast (f := a1) (ws' := mw (g_E Γ) m r o (gu (gu (gu (gu (gu (gu A 1 f_4) 10 a10) 11 a11) 12 a12) 13 a13) 15 a15)) K 1 rfl (ginb_in b_3) dX12_movedOf_19 (by rw [ef_4]; rfl) ?_
    refine g_aload_n K dX12_movedOf_20 rfl 1 rfl ?_
    obtain ⟨z_5, hz_5, h⟩ := gi_bd h
    refine g_callVv (As := []) (bytes := cX12_gradesAll) (maxL := 2) (ret := none) K (ctX12_gradesAll o (gu (gu (gu (gu (gu (gu A 1 f_4) 10 a10) 11 a11) 12 a12) 13 a13) 15 a15) (res := z_5) hz_5) gc_V_RX12_191_X12_gradesAll rfl qv_X12_gradesAll 0 rfl rfl rfl hRm rfl rfl rfl (by decide) (Nat.le_of_ble_eq_true rfl) (by decide) dX12_movedOf_21 (fun w hw => ?_)
    subst hw
    refine g_ws (ws' := mw (g_E Γ) m r o (gu (gu (gu (gu (gu (gu A 1 f_4) 10 z_5.1) 11 z_5.2.1) 12 z_5.2.2.1) 13 z_5.2.2.2.1) 15 z_5.2.2.2.2)) rfl ?_
    refine g_aload_n K dX12_movedOf_24 rfl 1 rfl ?_
    refine mg_1 K hin_X12 (u_980) dX12_movedOf_25 ?_
    refine g_bipush (v := 31) K dX12_movedOf_28 (by decide) ?_
    refine g_iload_n K dX12_movedOf_30 rfl 2 rfl ?_
    refine g_iadd K dX12_movedOf_31 ?_
    refine g_iload_n K dX12_movedOf_32 rfl 0 rfl ?_
    obtain ⟨b_6, h⟩ := gi_none h
    obtain ⟨f_7, ef_7, h⟩ := gi_nm h
    refine g_iast (f := f_4) (ws' := mw (g_E Γ) m r o (gu (gu (gu (gu (gu (gu A 1 f_7) 10 z_5.1) 11 z_5.2.1) 12 z_5.2.2.1) 13 z_5.2.2.2.1) 15 z_5.2.2.2.2)) K 1 rfl (ginb_in b_6) dX12_movedOf_33 (by rw [ef_7]; rfl) ?_
    refine g_aload_n K dX12_movedOf_34 rfl 1 rfl ?_
    refine mg_13 K hin_X12 (u_992) dX12_movedOf_35 ?_
    refine g_iload_n K dX12_movedOf_38 rfl 2 rfl ?_
    obtain ⟨b_8, h⟩ := gi_none h
    refine g_iald (f := z_5.2.2.2.1) K 7 rfl (ginb_in b_8) dX12_movedOf_39 ?_
    obtain rfl := Option.some.inj h
    exact hret _ _ _ _ dX12_movedOf_40 rfl ⟨rfl, rfl⟩

set_option maxRecDepth 100000 in
theorem ctX12_movedOf {E : gE} {m : Nat} {r : Nat → Nat} (o : Nat → Int32) (A : Nat → Nat → Int32) (x1 : Int32) (x2 : Int32) {res : Int32 × ((Nat → Int32)) × ((Nat → Int32)) × ((Nat → Int32)) × ((Nat → Int32)) × ((Nat → Int32)) × ((Nat → Int32))} (h : pX12_movedOf (A 1) (A 10) (A 11) (A 12) (A 13) (A 15) x1 x2 = some res) : gMi yX12_movedOf (.code yX12_movedOf cX12_movedOf 4 (some .int) :: gU) ({ frames := 9, cells := 0, slots := 0, locals := 265 } : Room) 0 0 E [.ref m, .int x1, .int x2] (mw E m r o A) (fun v w => v = res.1 ∧ w = mw E m r o (gu (gu (gu (gu (gu (gu A 1 res.2.1) 10 res.2.2.1) 11 res.2.2.2.1) 12 res.2.2.2.2.1) 13 res.2.2.2.2.2.1) 15 res.2.2.2.2.2.2)) := by
  refine g_met_i (by decide +kernel) (Nat.le_of_ble_eq_true rfl) (fun Γ K hn hE hRm _ hret => ?_)
  subst hE
  have hlt : ∀ i, i < 4 → i < g_n Γ := fun i q => by rw [hn]; exact q
  refine g_ws (ws' := mw (g_E Γ) m r o (gu (gu (gu (gu (gu (gu A 1 (A 1)) 10 (A 10)) 11 (A 11)) 12 (A 12)) 13 (A 13)) 15 (A 15))) rfl ?_
  refine g_sub (L' := [(0, .ref m), (1, .int x1), (2, .int x2)]) [0, 1, 2] rfl ?_
  exact wX12_movedOf K hlt hRm hret (A 1) (A 10) (A 11) (A 12) (A 13) (A 15) x1 x2 h

set_option maxHeartbeats 4000000 in
set_option maxRecDepth 100000 in
theorem wX12_moved {Γ : gT} {m : Nat} {r : Nat → Nat} {o : Nat → Int32} {A : Nat → Nat → Int32} (K : gOK Γ cX12_moved gU RX12) (hlt : ∀ i, i < 3 → i < g_n Γ) (hRm : g_R Γ = ({ frames := 10, cells := 0, slots := 0, locals := 288 } : Room)) {res : Int32 × ((Nat → Int32)) × ((Nat → Int32)) × ((Nat → Int32)) × ((Nat → Int32)) × ((Nat → Int32)) × ((Nat → Int32))} (hret : ∀ (pc : Nat) (L : List (Nat × Value)) (v : Int32) (w : va_W), decode cX12_moved pc = .ok (.ireturn, 1) → narrow .int (.int v) = .int v → (v = res.1 ∧ w = mw (g_E Γ) m r o (gu (gu (gu (gu (gu (gu A 1 res.2.1) 10 res.2.2.1) 11 res.2.2.2.1) 12 res.2.2.2.2.1) 13 res.2.2.2.2.2.1) 15 res.2.2.2.2.2.2)) → gGO Γ 0 0 pc L [.int v] w) (a1 : (Nat → Int32)) (a10 : (Nat → Int32)) (a11 : (Nat → Int32)) (a12 : (Nat → Int32)) (a13 : (Nat → Int32)) (a15 : (Nat → Int32)) (x1 : Int32) (x2 : Int32) (h : pX12_moved a1 a10 a11 a12 a13 a15 x1 x2 = some res) : gGO Γ 0 0 0 [(0, .ref m), (1, .int x1), (2, .int x2)] [] (mw (g_E Γ) m r o (gu (gu (gu (gu (gu (gu A 1 a1) 10 a10) 11 a11) 12 a12) 13 a13) 15 a15)) := by
    unfold pX12_moved at h
    refine g_aload_n K dX12_moved_0 rfl 0 rfl ?_
    refine g_iload_n K dX12_moved_1 rfl 1 rfl ?_
    obtain ⟨z_1, hz_1, h⟩ := gi_bd h
    refine g_callVi (As := [.int x1]) (bytes := cX12_isWorker) (maxL := 2) (ret := (some .boolean)) K (ctX12_isWorker o (gu (gu (gu (gu (gu (gu A 1 a1) 10 a10) 11 a11) 12 a12) 13 a13) 15 a15) x1 (res := z_1) hz_1) gc_V_RX12_146_X12_isWorker rfl qv_X12_isWorker 0 rfl rfl rfl hRm rfl rfl rfl (by decide) (Nat.le_of_ble_eq_true rfl) (by decide) dX12_moved_2 (fun v w hw => ?_)
    obtain ⟨hv9, rfl⟩ := hw; have hv9 := hv9.symm; subst hv9
    obtain ⟨ht9, hf9⟩ := gi_br h; clear h
    refine g_if_eq (tgt := 25) K dX12_moved_5 (by decide) (fun qh => ?_) (fun qh => ?_)
    · have h := ht9 qh; clear ht9 hf9
      refine g_iconst (v := (-1)) K dX12_moved_25 (by decide) ?_
      obtain rfl := Option.some.inj h
      exact hret _ _ _ _ dX12_moved_26 rfl ⟨rfl, rfl⟩
    · have h := hf9 qh; clear ht9 hf9
      refine g_aload_n K dX12_moved_8 rfl 0 rfl ?_
      refine g_iload_n K dX12_moved_9 rfl 2 rfl ?_
      obtain ⟨z_2, hz_2, h⟩ := gi_bd h
      refine g_callVi (As := [.int x2]) (bytes := cX12_isChief) (maxL := 2) (ret := (some .boolean)) K (ctX12_isChief o (gu (gu (gu (gu (gu (gu A 1 a1) 10 a10) 11 a11) 12 a12) 13 a13) 15 a15) x2 (res := z_2) hz_2) gc_V_RX12_138_X12_isChief rfl qv_X12_isChief 0 rfl rfl rfl hRm rfl rfl rfl (by decide) (Nat.le_of_ble_eq_true rfl) (by decide) dX12_moved_10 (fun v w hw => ?_)
      obtain ⟨hv9, rfl⟩ := hw; have hv9 := hv9.symm; subst hv9
      obtain ⟨ht9, hf9⟩ := gi_br h; clear h
      refine g_if_eq (tgt := 25) K dX12_moved_13 (by decide) (fun qh => ?_) (fun qh => ?_)
      · have h := ht9 qh; clear ht9 hf9
        refine g_iconst (v := (-1)) K dX12_moved_25 (by decide) ?_
        obtain rfl := Option.some.inj h
        exact hret _ _ _ _ dX12_moved_26 rfl ⟨rfl, rfl⟩
      · have h := hf9 qh; clear ht9 hf9
        refine g_aload_n K dX12_moved_16 rfl 0 rfl ?_
        refine g_iload_n K dX12_moved_17 rfl 1 rfl ?_
        refine g_iload_n K dX12_moved_18 rfl 2 rfl ?_
        obtain ⟨z_3, hz_3, h⟩ := gi_bd h
        refine g_callVi (As := [.int x1, .int x2]) (bytes := cX12_movedOf) (maxL := 4) (ret := (some .int)) K (ctX12_movedOf o (gu (gu (gu (gu (gu (gu A 1 a1) 10 a10) 11 a11) 12 a12) 13 a13) 15 a15) x1 x2 (res := z_3) hz_3) gc_V_RX12_200_X12_movedOf rfl qv_X12_movedOf 0 rfl rfl rfl hRm rfl rfl rfl (by decide) (Nat.le_of_ble_eq_true rfl) (by decide) dX12_moved_19 (fun v w hw => ?_)
        obtain ⟨hv9, rfl⟩ := hw; have hv9 := hv9.symm; subst hv9
        refine g_ws (ws' := mw (g_E Γ) m r o (gu (gu (gu (gu (gu (gu A 1 z_3.2.1) 10 z_3.2.2.1) 11 z_3.2.2.2.1) 12 z_3.2.2.2.2.1) 13 z_3.2.2.2.2.2.1) 15 z_3.2.2.2.2.2.2)) rfl ?_
        refine g_goto (tgt := 26) K dX12_moved_22 (by decide) ?_
        obtain rfl := Option.some.inj h
        exact hret _ _ _ _ dX12_moved_26 rfl ⟨rfl, rfl⟩

set_option maxRecDepth 100000 in
theorem ctX12_moved {E : gE} {m : Nat} {r : Nat → Nat} (o : Nat → Int32) (A : Nat → Nat → Int32) (x1 : Int32) (x2 : Int32) {res : Int32 × ((Nat → Int32)) × ((Nat → Int32)) × ((Nat → Int32)) × ((Nat → Int32)) × ((Nat → Int32)) × ((Nat → Int32))} (h : pX12_moved (A 1) (A 10) (A 11) (A 12) (A 13) (A 15) x1 x2 = some res) : gMi yX12_moved (.code yX12_moved cX12_moved 3 (some .int) :: gU) ({ frames := 10, cells := 0, slots := 0, locals := 288 } : Room) 0 0 E [.ref m, .int x1, .int x2] (mw E m r o A) (fun v w => v = res.1 ∧ w = mw E m r o (gu (gu (gu (gu (gu (gu A 1 res.2.1) 10 res.2.2.1) 11 res.2.2.2.1) 12 res.2.2.2.2.1) 13 res.2.2.2.2.2.1) 15 res.2.2.2.2.2.2)) := by
  refine g_met_i (by decide +kernel) (Nat.le_of_ble_eq_true rfl) (fun Γ K hn hE hRm _ hret => ?_)
  subst hE
  have hlt : ∀ i, i < 3 → i < g_n Γ := fun i q => by rw [hn]; exact q
  refine g_ws (ws' := mw (g_E Γ) m r o (gu (gu (gu (gu (gu (gu A 1 (A 1)) 10 (A 10)) 11 (A 11)) 12 (A 12)) 13 (A 13)) 15 (A 15))) rfl ?_
  refine g_sub (L' := [(0, .ref m), (1, .int x1), (2, .int x2)]) [0, 1, 2] rfl ?_
  exact wX12_moved K hlt hRm hret (A 1) (A 10) (A 11) (A 12) (A 13) (A 15) x1 x2 h

set_option maxHeartbeats 4000000 in
set_option maxRecDepth 100000 in
theorem wX12_best_61 {Γ : gT} {m : Nat} {r : Nat → Nat} {o : Nat → Int32} {A : Nat → Nat → Int32} (K : gOK Γ cX12_best gU RX12) (hlt : ∀ i, i < 7 → i < g_n Γ) (hRm : g_R Γ = ({ frames := 10, cells := 0, slots := 0, locals := 288 } : Room)) {res : Int32 × ((Nat → Int32)) × ((Nat → Int32)) × ((Nat → Int32)) × ((Nat → Int32)) × ((Nat → Int32)) × ((Nat → Int32))} (hret : ∀ (pc : Nat) (L : List (Nat × Value)) (v : Int32) (w : va_W), decode cX12_best pc = .ok (.ireturn, 1) → narrow .int (.int v) = .int v → (v = res.1 ∧ w = mw (g_E Γ) m r o (gu (gu (gu (gu (gu (gu A 1 res.2.1) 10 res.2.2.1) 11 res.2.2.2.1) 12 res.2.2.2.2.1) 13 res.2.2.2.2.2.1) 15 res.2.2.2.2.2.2)) → gGO Γ 0 0 pc L [.int v] w) {k27 : (Nat → Int32) → (Nat → Int32) → (Nat → Int32) → (Nat → Int32) → (Nat → Int32) → (Nat → Int32) → Int32 → Int32 → Int32 → Int32 → Int32 → Option (Int32 × ((Nat → Int32)) × ((Nat → Int32)) × ((Nat → Int32)) × ((Nat → Int32)) × ((Nat → Int32)) × ((Nat → Int32)))} (hk27 : ∀ (a1 : (Nat → Int32)) (a10 : (Nat → Int32)) (a11 : (Nat → Int32)) (a12 : (Nat → Int32)) (a13 : (Nat → Int32)) (a15 : (Nat → Int32)) (x1 : Int32) (x2 : Int32) (x3 : Int32) (x4 : Int32) (x5 : Int32), k27 a1 a10 a11 a12 a13 a15 x1 x2 x3 x4 x5 = some res → gGO Γ 0 0 27 [(0, .ref m), (1, .int x1), (2, .int x2), (3, .int x3), (4, .int x4), (5, .int x5)] [] (mw (g_E Γ) m r o (gu (gu (gu (gu (gu (gu A 1 a1) 10 a10) 11 a11) 12 a12) 13 a13) 15 a15))) (a1 : (Nat → Int32)) (a10 : (Nat → Int32)) (a11 : (Nat → Int32)) (a12 : (Nat → Int32)) (a13 : (Nat → Int32)) (a15 : (Nat → Int32)) (x1 : Int32) (x2 : Int32) (x4 : Int32) (x5 : Int32) (x6 : Int32) (y0 : Int32) (h : pX12_best_61 k27 a1 a10 a11 a12 a13 a15 x1 x2 x4 x5 x6 y0 = some res) : gGO Γ 0 0 61 [(0, .ref m), (1, .int x1), (2, .int x2), (4, .int x4), (5, .int x5), (6, .int x6)] [.int y0] (mw (g_E Γ) m r o (gu (gu (gu (gu (gu (gu A 1 a1) 10 a10) 11 a11) 12 a12) 13 a13) 15 a15)) := by
    unfold pX12_best_61 at h
    refine g_istore_n (L' := [(3, .int y0), (0, .ref m), (1, .int x1), (2, .int x2), (4, .int x4), (5, .int x5), (6, .int x6)]) K dX12_best_61 rfl (hlt _ (by decide)) rfl ?_
    refine g_iload K dX12_best_62 6 rfl ?_
    refine g_iload K dX12_best_64 4 rfl ?_
    obtain ⟨ht9, hf9⟩ := gi_br h; clear h
    refine g_icmp_le (tgt := 74) K dX12_best_66 (by decide) (fun qh => ?_) (fun qh => ?_)
    · have h := ht9 qh; clear ht9 hf9
      refine g_iload K dX12_best_74 4 rfl ?_
      refine g_istore (L' := [(4, .int x4), (3, .int y0), (0, .ref m), (1, .int x1), (2, .int x2), (5, .int x5), (6, .int x6)]) K dX12_best_76 (hlt _ (by decide)) rfl ?_
      refine g_iinc (v := (x5 + 1)) (L' := [(5, .int (x5 + 1)), (4, .int x4), (3, .int y0), (0, .ref m), (1, .int x1), (2, .int x2), (6, .int x6)]) K dX12_best_78 5 rfl rfl (hlt _ (by decide)) rfl ?_
      refine g_goto (tgt := 27) K dX12_best_81 (by decide) ?_
      refine g_sub (L' := [(0, .ref m), (1, .int x1), (2, .int x2), (3, .int y0), (4, .int x4), (5, .int (x5 + 1))]) [3, 4, 5, 2, 1, 0] rfl ?_
      exact hk27 a1 a10 a11 a12 a13 a15 x1 x2 y0 x4 (x5 + 1) h
    · have h := hf9 qh; clear ht9 hf9
      refine g_iload K dX12_best_69 6 rfl ?_
      refine g_goto (tgt := 76) K dX12_best_71 (by decide) ?_
      refine g_istore (L' := [(4, .int x6), (3, .int y0), (0, .ref m), (1, .int x1), (2, .int x2), (5, .int x5), (6, .int x6)]) K dX12_best_76 (hlt _ (by decide)) rfl ?_
      refine g_iinc (v := (x5 + 1)) (L' := [(5, .int (x5 + 1)), (4, .int x6), (3, .int y0), (0, .ref m), (1, .int x1), (2, .int x2), (6, .int x6)]) K dX12_best_78 5 rfl rfl (hlt _ (by decide)) rfl ?_
      refine g_goto (tgt := 27) K dX12_best_81 (by decide) ?_
      refine g_sub (L' := [(0, .ref m), (1, .int x1), (2, .int x2), (3, .int y0), (4, .int x6), (5, .int (x5 + 1))]) [3, 4, 5, 2, 1, 0] rfl ?_
      exact hk27 a1 a10 a11 a12 a13 a15 x1 x2 y0 x6 (x5 + 1) h

set_option maxHeartbeats 4000000 in
set_option maxRecDepth 100000 in
theorem wX12_best_27 {Γ : gT} {m : Nat} {r : Nat → Nat} {o : Nat → Int32} {A : Nat → Nat → Int32} (K : gOK Γ cX12_best gU RX12) (hlt : ∀ i, i < 7 → i < g_n Γ) (hRm : g_R Γ = ({ frames := 10, cells := 0, slots := 0, locals := 288 } : Room)) {res : Int32 × ((Nat → Int32)) × ((Nat → Int32)) × ((Nat → Int32)) × ((Nat → Int32)) × ((Nat → Int32)) × ((Nat → Int32))} (hret : ∀ (pc : Nat) (L : List (Nat × Value)) (v : Int32) (w : va_W), decode cX12_best pc = .ok (.ireturn, 1) → narrow .int (.int v) = .int v → (v = res.1 ∧ w = mw (g_E Γ) m r o (gu (gu (gu (gu (gu (gu A 1 res.2.1) 10 res.2.2.1) 11 res.2.2.2.1) 12 res.2.2.2.2.1) 13 res.2.2.2.2.2.1) 15 res.2.2.2.2.2.2)) → gGO Γ 0 0 pc L [.int v] w) : ∀ (n : Nat) (a1 : (Nat → Int32)) (a10 : (Nat → Int32)) (a11 : (Nat → Int32)) (a12 : (Nat → Int32)) (a13 : (Nat → Int32)) (a15 : (Nat → Int32)) (x1 : Int32) (x2 : Int32) (x3 : Int32) (x4 : Int32) (x5 : Int32), pX12_best_27 n a1 a10 a11 a12 a13 a15 x1 x2 x3 x4 x5 = some res → gGO Γ 0 0 27 [(0, .ref m), (1, .int x1), (2, .int x2), (3, .int x3), (4, .int x4), (5, .int x5)] [] (mw (g_E Γ) m r o (gu (gu (gu (gu (gu (gu A 1 a1) 10 a10) 11 a11) 12 a12) 13 a13) 15 a15)) := by
  intro n
  induction n with
  | zero => intro _ _ _ _ _ _ _ _ _ _ _ h; cases h
  | succ n ih =>
    intro a1 a10 a11 a12 a13 a15 x1 x2 x3 x4 x5 h
    simp only [pX12_best_27] at h
    refine g_iload K dX12_best_27 5 rfl ?_
    refine g_aload_n K dX12_best_29 rfl 0 rfl ?_
    refine mg_1 K hin_X12 (u_980) dX12_best_30 ?_
    refine g_bipush (v := 52) K dX12_best_33 (by decide) ?_
    obtain ⟨b_1, h⟩ := gi_none h
    refine g_iald (f := a1) K 1 rfl (ginb_in b_1) dX12_best_35 ?_
    obtain ⟨ht9, hf9⟩ := gi_br h; clear h
    refine g_icmp_ge (tgt := 84) K dX12_best_36 (by decide) (fun qh => ?_) (fun qh => ?_)
    · have h := ht9 qh; clear ht9 hf9
      refine g_iload_n K dX12_best_84 rfl 2 rfl ?_
      obtain ⟨ht9, hf9⟩ := gi_br h; clear h
      refine g_if_ne (tgt := 92) K dX12_best_85 (by decide) (fun qh => ?_) (fun qh => ?_)
      · have h := hf9 qh; clear ht9 hf9
        refine g_iload K dX12_best_92 4 rfl ?_
        obtain rfl := Option.some.inj h
        exact hret _ _ _ _ dX12_best_94 rfl ⟨rfl, rfl⟩
      · have h := ht9 qh; clear ht9 hf9
        refine g_iload_n K dX12_best_88 rfl 3 rfl ?_
        refine g_goto (tgt := 94) K dX12_best_89 (by decide) ?_
        obtain rfl := Option.some.inj h
        exact hret _ _ _ _ dX12_best_94 rfl ⟨rfl, rfl⟩
    · have h := hf9 qh; clear ht9 hf9
      refine g_aload_n K dX12_best_39 rfl 0 rfl ?_
      refine g_iload_n K dX12_best_40 rfl 1 rfl ?_
      refine g_iload K dX12_best_41 5 rfl ?_
      obtain ⟨z_2, hz_2, h⟩ := gi_bd h
      refine g_callVi (As := [.int x1, .int x5]) (bytes := cX12_movedOf) (maxL := 4) (ret := (some .int)) K (ctX12_movedOf o (gu (gu (gu (gu (gu (gu A 1 a1) 10 a10) 11 a11) 12 a12) 13 a13) 15 a15) x1 x5 (res := z_2) hz_2) gc_V_RX12_200_X12_movedOf rfl qv_X12_movedOf 0 rfl rfl rfl hRm rfl rfl rfl (by decide) (Nat.le_of_ble_eq_true rfl) (by decide) dX12_best_43 (fun v w hw => ?_)
      obtain ⟨hv9, rfl⟩ := hw; have hv9 := hv9.symm; subst hv9
      refine g_ws (ws' := mw (g_E Γ) m r o (gu (gu (gu (gu (gu (gu A 1 z_2.2.1) 10 z_2.2.2.1) 11 z_2.2.2.2.1) 12 z_2.2.2.2.2.1) 13 z_2.2.2.2.2.2.1) 15 z_2.2.2.2.2.2.2)) rfl ?_
      obtain ⟨v_3, ev_3, h⟩ := gi_nm h
      refine g_topi ev_3 ?_
      refine g_istore (L' := [(6, .int v_3), (0, .ref m), (1, .int x1), (2, .int x2), (3, .int x3), (4, .int x4), (5, .int x5)]) K dX12_best_46 (hlt _ (by decide)) rfl ?_
      refine g_iload K dX12_best_48 0 rfl ?_
      refine g_iload K dX12_best_50 5 rfl ?_
      obtain ⟨ht9, hf9⟩ := gi_br h; clear h
      refine g_icmp_le (tgt := 60) K dX12_best_52 (by decide) (fun qh => ?_) (fun qh => ?_)
      · have h := ht9 qh; clear ht9 hf9
        refine g_iload_n K dX12_best_60 rfl 4 rfl ?_
        refine g_sub (L' := [(0, .ref m), (1, .int x1), (2, .int x2), (4, .int x4), (5, .int x5), (6, .int v_3)]) [1, 2, 3, 5, 6, 0] rfl ?_
        exact wX12_best_61 K hlt hRm hret ih z_2.2.1 z_2.2.2.1 z_2.2.2.2.1 z_2.2.2.2.2.1 z_2.2.2.2.2.2.1 z_2.2.2.2.2.2.2 x1 x2 x4 x5 v_3 x3 h
      · have h := hf9 qh; clear ht9 hf9
        refine g_iload K dX12_best_55 6 rfl ?_
        refine g_goto (tgt := 61) K dX12_best_57 (by decide) ?_
        refine g_sub (L' := [(0, .ref m), (1, .int x1), (2, .int x2), (4, .int x4), (5, .int x5), (6, .int v_3)]) [1, 2, 3, 5, 6, 0] rfl ?_
        exact wX12_best_61 K hlt hRm hret ih z_2.2.1 z_2.2.2.1 z_2.2.2.2.1 z_2.2.2.2.2.1 z_2.2.2.2.2.2.1 z_2.2.2.2.2.2.2 x1 x2 x4 x5 v_3 x5 h

set_option maxHeartbeats 4000000 in
set_option maxRecDepth 100000 in
theorem wX12_best {Γ : gT} {m : Nat} {r : Nat → Nat} {o : Nat → Int32} {A : Nat → Nat → Int32} (K : gOK Γ cX12_best gU RX12) (hlt : ∀ i, i < 7 → i < g_n Γ) (hRm : g_R Γ = ({ frames := 10, cells := 0, slots := 0, locals := 288 } : Room)) {res : Int32 × ((Nat → Int32)) × ((Nat → Int32)) × ((Nat → Int32)) × ((Nat → Int32)) × ((Nat → Int32)) × ((Nat → Int32))} (hret : ∀ (pc : Nat) (L : List (Nat × Value)) (v : Int32) (w : va_W), decode cX12_best pc = .ok (.ireturn, 1) → narrow .int (.int v) = .int v → (v = res.1 ∧ w = mw (g_E Γ) m r o (gu (gu (gu (gu (gu (gu A 1 res.2.1) 10 res.2.2.1) 11 res.2.2.2.1) 12 res.2.2.2.2.1) 13 res.2.2.2.2.2.1) 15 res.2.2.2.2.2.2)) → gGO Γ 0 0 pc L [.int v] w) (a1 : (Nat → Int32)) (a10 : (Nat → Int32)) (a11 : (Nat → Int32)) (a12 : (Nat → Int32)) (a13 : (Nat → Int32)) (a15 : (Nat → Int32)) (x1 : Int32) (x2 : Int32) (h : pX12_best a1 a10 a11 a12 a13 a15 x1 x2 = some res) : gGO Γ 0 0 0 [(0, .ref m), (1, .int x1), (2, .int x2)] [] (mw (g_E Γ) m r o (gu (gu (gu (gu (gu (gu A 1 a1) 10 a10) 11 a11) 12 a12) 13 a13) 15 a15)) := by
    unfold pX12_best at h
    refine g_aload_n K dX12_best_0 rfl 0 rfl ?_
    refine g_iload_n K dX12_best_1 rfl 1 rfl ?_
    obtain ⟨z_1, hz_1, h⟩ := gi_bd h
    refine g_callVi (As := [.int x1]) (bytes := cX12_isWorker) (maxL := 2) (ret := (some .boolean)) K (ctX12_isWorker o (gu (gu (gu (gu (gu (gu A 1 a1) 10 a10) 11 a11) 12 a12) 13 a13) 15 a15) x1 (res := z_1) hz_1) gc_V_RX12_146_X12_isWorker rfl qv_X12_isWorker 0 rfl rfl rfl hRm rfl rfl rfl (by decide) (Nat.le_of_ble_eq_true rfl) (by decide) dX12_best_2 (fun v w hw => ?_)
    obtain ⟨hv9, rfl⟩ := hw; have hv9 := hv9.symm; subst hv9
    obtain ⟨ht9, hf9⟩ := gi_br h; clear h
    refine g_if_eq (tgt := 17) K dX12_best_5 (by decide) (fun qh => ?_) (fun qh => ?_)
    · have h := ht9 qh; clear ht9 hf9
      refine g_iconst (v := (-1)) K dX12_best_17 (by decide) ?_
      obtain rfl := Option.some.inj h
      exact hret _ _ _ _ dX12_best_18 rfl ⟨rfl, rfl⟩
    · have h := hf9 qh; clear ht9 hf9
      refine g_iload_n K dX12_best_8 rfl 2 rfl ?_
      refine g_iconst (v := 0) K dX12_best_9 (by decide) ?_
      refine g_iconst (v := 1) K dX12_best_10 (by decide) ?_
      obtain ⟨z_2, hz_2, h⟩ := gi_bd h
      refine g_callSi (As := [.int x2, .int 0, .int 1]) (bytes := cX12_in) (maxL := 3) (ret := (some .boolean)) K (ctX12_in (ws := mw (g_E Γ) m r o (gu (gu (gu (gu (gu (gu A 1 a1) 10 a10) 11 a11) 12 a12) 13 a13) 15 a15)) x2 0 1 (res := z_2) hz_2) gc_S_RX12_50_X12_in rfl qs_X12_in hRm rfl rfl rfl (by decide) (Nat.le_of_ble_eq_true rfl) (by decide) dX12_best_11 (fun v w hw => ?_)
      obtain ⟨hv9, rfl⟩ := hw; have hv9 := hv9.symm; subst hv9
      obtain ⟨ht9, hf9⟩ := gi_br h; clear h
      refine g_if_ne (tgt := 19) K dX12_best_14 (by decide) (fun qh => ?_) (fun qh => ?_)
      · have h := hf9 qh; clear ht9 hf9
        refine g_iconst (v := 0) K dX12_best_19 (by decide) ?_
        refine g_istore_n (L' := [(3, .int 0), (0, .ref m), (1, .int x1), (2, .int x2)]) K dX12_best_20 rfl (hlt _ (by decide)) rfl ?_
        refine g_iconst (v := 0) K dX12_best_21 (by decide) ?_
        refine g_istore (L' := [(4, .int 0), (3, .int 0), (0, .ref m), (1, .int x1), (2, .int x2)]) K dX12_best_22 (hlt _ (by decide)) rfl ?_
        refine g_iconst (v := 0) K dX12_best_24 (by decide) ?_
        refine g_istore (L' := [(5, .int 0), (4, .int 0), (3, .int 0), (0, .ref m), (1, .int x1), (2, .int x2)]) K dX12_best_25 (hlt _ (by decide)) rfl ?_
        refine g_sub (L' := [(0, .ref m), (1, .int x1), (2, .int x2), (3, .int 0), (4, .int 0), (5, .int 0)]) [3, 4, 5, 2, 1, 0] rfl ?_
        exact wX12_best_27 K hlt hRm hret 1000 a1 a10 a11 a12 a13 a15 x1 x2 0 0 0 h
      · have h := ht9 qh; clear ht9 hf9
        refine g_iconst (v := (-1)) K dX12_best_17 (by decide) ?_
        obtain rfl := Option.some.inj h
        exact hret _ _ _ _ dX12_best_18 rfl ⟨rfl, rfl⟩

set_option maxRecDepth 100000 in
theorem ctX12_best {E : gE} {m : Nat} {r : Nat → Nat} (o : Nat → Int32) (A : Nat → Nat → Int32) (x1 : Int32) (x2 : Int32) {res : Int32 × ((Nat → Int32)) × ((Nat → Int32)) × ((Nat → Int32)) × ((Nat → Int32)) × ((Nat → Int32)) × ((Nat → Int32))} (h : pX12_best (A 1) (A 10) (A 11) (A 12) (A 13) (A 15) x1 x2 = some res) : gMi yX12_best (.code yX12_best cX12_best 7 (some .int) :: gU) ({ frames := 10, cells := 0, slots := 0, locals := 288 } : Room) 0 0 E [.ref m, .int x1, .int x2] (mw E m r o A) (fun v w => v = res.1 ∧ w = mw E m r o (gu (gu (gu (gu (gu (gu A 1 res.2.1) 10 res.2.2.1) 11 res.2.2.2.1) 12 res.2.2.2.2.1) 13 res.2.2.2.2.2.1) 15 res.2.2.2.2.2.2)) := by
  refine g_met_i (by decide +kernel) (Nat.le_of_ble_eq_true rfl) (fun Γ K hn hE hRm _ hret => ?_)
  subst hE
  have hlt : ∀ i, i < 7 → i < g_n Γ := fun i q => by rw [hn]; exact q
  refine g_ws (ws' := mw (g_E Γ) m r o (gu (gu (gu (gu (gu (gu A 1 (A 1)) 10 (A 10)) 11 (A 11)) 12 (A 12)) 13 (A 13)) 15 (A 15))) rfl ?_
  refine g_sub (L' := [(0, .ref m), (1, .int x1), (2, .int x2)]) [0, 1, 2] rfl ?_
  exact wX12_best K hlt hRm hret (A 1) (A 10) (A 11) (A 12) (A 13) (A 15) x1 x2 h

set_option maxHeartbeats 4000000 in
set_option maxRecDepth 100000 in
theorem wX12_asked_79 {Γ : gT} {m : Nat} {r : Nat → Nat} {o : Nat → Int32} {A : Nat → Nat → Int32} (K : gOK Γ cX12_asked gU RX12) (hlt : ∀ i, i < 8 → i < g_n Γ) (hRm : g_R Γ = ({ frames := 9, cells := 0, slots := 0, locals := 265 } : Room)) {res : Int32 × ((Nat → Int32)) × ((Nat → Int32)) × ((Nat → Int32)) × ((Nat → Int32)) × ((Nat → Int32)) × ((Nat → Int32))} (hret : ∀ (pc : Nat) (L : List (Nat × Value)) (v : Int32) (w : va_W), decode cX12_asked pc = .ok (.ireturn, 1) → narrow .int (.int v) = .int v → (v = res.1 ∧ w = mw (g_E Γ) m r o (gu (gu (gu (gu (gu (gu A 1 res.2.1) 10 res.2.2.1) 11 res.2.2.2.1) 12 res.2.2.2.2.1) 13 res.2.2.2.2.2.1) 15 res.2.2.2.2.2.2)) → gGO Γ 0 0 pc L [.int v] w) {k40 : (Nat → Int32) → (Nat → Int32) → (Nat → Int32) → (Nat → Int32) → (Nat → Int32) → (Nat → Int32) → Int32 → Int32 → Int32 → Int32 → Int32 → Option (Int32 × ((Nat → Int32)) × ((Nat → Int32)) × ((Nat → Int32)) × ((Nat → Int32)) × ((Nat → Int32)) × ((Nat → Int32)))} (hk40 : ∀ (a1 : (Nat → Int32)) (a10 : (Nat → Int32)) (a11 : (Nat → Int32)) (a12 : (Nat → Int32)) (a13 : (Nat → Int32)) (a15 : (Nat → Int32)) (x1 : Int32) (x2 : Int32) (x3 : Int32) (x4 : Int32) (x5 : Int32), k40 a1 a10 a11 a12 a13 a15 x1 x2 x3 x4 x5 = some res → gGO Γ 0 0 40 [(0, .ref m), (1, .int x1), (2, .int x2), (3, .int x3), (4, .int x4), (5, .int x5)] [] (mw (g_E Γ) m r o (gu (gu (gu (gu (gu (gu A 1 a1) 10 a10) 11 a11) 12 a12) 13 a13) 15 a15))) : ∀ (n : Nat) (a1 : (Nat → Int32)) (a10 : (Nat → Int32)) (a11 : (Nat → Int32)) (a12 : (Nat → Int32)) (a13 : (Nat → Int32)) (a15 : (Nat → Int32)) (x1 : Int32) (x2 : Int32) (x3 : Int32) (x4 : Int32) (x5 : Int32) (x6 : Int32) (x7 : Int32), pX12_asked_79 k40 n a1 a10 a11 a12 a13 a15 x1 x2 x3 x4 x5 x6 x7 = some res → gGO Γ 0 0 79 [(0, .ref m), (1, .int x1), (2, .int x2), (3, .int x3), (4, .int x4), (5, .int x5), (6, .int x6), (7, .int x7)] [] (mw (g_E Γ) m r o (gu (gu (gu (gu (gu (gu A 1 a1) 10 a10) 11 a11) 12 a12) 13 a13) 15 a15)) := by
  intro n
  induction n with
  | zero => intro _ _ _ _ _ _ _ _ _ _ _ _ _ h; cases h
  | succ n ih =>
    intro a1 a10 a11 a12 a13 a15 x1 x2 x3 x4 x5 x6 x7 h
    simp only [pX12_asked_79] at h
    refine g_iload K dX12_asked_79 7 rfl ?_
    refine g_aload_n K dX12_asked_81 rfl 0 rfl ?_
    refine mg_1 K hin_X12 (u_980) dX12_asked_82 ?_
    refine g_bipush (v := 51) K dX12_asked_85 (by decide) ?_
    obtain ⟨b_1, h⟩ := gi_none h
    refine g_iald (f := a1) K 1 rfl (ginb_in b_1) dX12_asked_87 ?_
    obtain ⟨ht9, hf9⟩ := gi_br h; clear h
    refine g_icmp_ge (tgt := 127) K dX12_asked_88 (by decide) (fun qh => ?_) (fun qh => ?_)
    · have h := ht9 qh; clear ht9 hf9
      refine g_iload K dX12_asked_127 6 rfl ?_
      refine g_iload_n K dX12_asked_129 rfl 2 rfl ?_
      obtain ⟨ht9, hf9⟩ := gi_br h; clear h
      refine g_icmp_lt (tgt := 138) K dX12_asked_130 (by decide) (fun qh => ?_) (fun qh => ?_)
      · have h := ht9 qh; clear ht9 hf9
        refine g_iload K dX12_asked_138 4 rfl ?_
        refine g_istore (L' := [(4, .int x4), (0, .ref m), (1, .int x1), (2, .int x2), (3, .int x3), (5, .int x5), (6, .int x6), (7, .int x7)]) K dX12_asked_140 (hlt _ (by decide)) rfl ?_
        refine g_iinc (v := (x5 + 1)) (L' := [(5, .int (x5 + 1)), (4, .int x4), (0, .ref m), (1, .int x1), (2, .int x2), (3, .int x3), (6, .int x6), (7, .int x7)]) K dX12_asked_142 5 rfl rfl (hlt _ (by decide)) rfl ?_
        refine g_goto (tgt := 40) K dX12_asked_145 (by decide) ?_
        refine g_sub (L' := [(0, .ref m), (1, .int x1), (2, .int x2), (3, .int x3), (4, .int x4), (5, .int (x5 + 1))]) [2, 3, 4, 5, 1, 0] rfl ?_
        exact hk40 a1 a10 a11 a12 a13 a15 x1 x2 x3 x4 (x5 + 1) h
      · have h := hf9 qh; clear ht9 hf9
        refine g_iload K dX12_asked_133 5 rfl ?_
        refine g_goto (tgt := 140) K dX12_asked_135 (by decide) ?_
        refine g_istore (L' := [(4, .int x5), (0, .ref m), (1, .int x1), (2, .int x2), (3, .int x3), (5, .int x5), (6, .int x6), (7, .int x7)]) K dX12_asked_140 (hlt _ (by decide)) rfl ?_
        refine g_iinc (v := (x5 + 1)) (L' := [(5, .int (x5 + 1)), (4, .int x5), (0, .ref m), (1, .int x1), (2, .int x2), (3, .int x3), (6, .int x6), (7, .int x7)]) K dX12_asked_142 5 rfl rfl (hlt _ (by decide)) rfl ?_
        refine g_goto (tgt := 40) K dX12_asked_145 (by decide) ?_
        refine g_sub (L' := [(0, .ref m), (1, .int x1), (2, .int x2), (3, .int x3), (4, .int x5), (5, .int (x5 + 1))]) [2, 3, 4, 5, 1, 0] rfl ?_
        exact hk40 a1 a10 a11 a12 a13 a15 x1 x2 x3 x5 (x5 + 1) h
    · have h := hf9 qh; clear ht9 hf9
      refine g_iload K dX12_asked_91 6 rfl ?_
      refine g_aload_n K dX12_asked_93 rfl 0 rfl ?_
      refine mg_1 K hin_X12 (u_980) dX12_asked_94 ?_
      refine g_bipush (v := 31) K dX12_asked_97 (by decide) ?_
      refine g_iload K dX12_asked_99 7 rfl ?_
      refine g_iadd K dX12_asked_101 ?_
      obtain ⟨b_2, h⟩ := gi_none h
      refine g_iald (f := a1) K 1 rfl (ginb_in b_2) dX12_asked_102 ?_
      refine g_iload_n K dX12_asked_103 rfl 1 rfl ?_
      obtain ⟨ht9, hf9⟩ := gi_br h; clear h
      refine g_icmp_ne (tgt := 117) K dX12_asked_104 (by decide) (fun qh => ?_) (fun qh => ?_)
      · have h := hf9 qh; clear ht9 hf9
        refine g_iconst (v := 0) K dX12_asked_117 (by decide) ?_
        refine g_iadd K dX12_asked_118 ?_
        obtain ⟨v_3, ev_3, h⟩ := gi_nm h
        refine g_topi ev_3 ?_
        refine g_istore (L' := [(6, .int v_3), (0, .ref m), (1, .int x1), (2, .int x2), (3, .int x3), (4, .int x4), (5, .int x5), (7, .int x7)]) K dX12_asked_119 (hlt _ (by decide)) rfl ?_
        refine g_iinc (v := (x7 + 1)) (L' := [(7, .int (x7 + 1)), (6, .int v_3), (0, .ref m), (1, .int x1), (2, .int x2), (3, .int x3), (4, .int x4), (5, .int x5)]) K dX12_asked_121 7 rfl rfl (hlt _ (by decide)) rfl ?_
        refine g_goto (tgt := 79) K dX12_asked_124 (by decide) ?_
        refine g_sub (L' := [(0, .ref m), (1, .int x1), (2, .int x2), (3, .int x3), (4, .int x4), (5, .int x5), (6, .int v_3), (7, .int (x7 + 1))]) [2, 3, 4, 5, 6, 7, 1, 0] rfl ?_
        exact ih a1 a10 a11 a12 a13 a15 x1 x2 x3 x4 x5 v_3 (x7 + 1) h
      · have h := ht9 qh; clear ht9 hf9
        refine g_aload_n K dX12_asked_107 rfl 0 rfl ?_
        refine mg_13 K hin_X12 (u_992) dX12_asked_108 ?_
        refine g_iload K dX12_asked_111 7 rfl ?_
        obtain ⟨b_4, h⟩ := gi_none h
        refine g_iald (f := a13) K 7 rfl (ginb_in b_4) dX12_asked_113 ?_
        refine g_goto (tgt := 118) K dX12_asked_114 (by decide) ?_
        refine g_iadd K dX12_asked_118 ?_
        obtain ⟨v_5, ev_5, h⟩ := gi_nm h
        refine g_topi ev_5 ?_
        refine g_istore (L' := [(6, .int v_5), (0, .ref m), (1, .int x1), (2, .int x2), (3, .int x3), (4, .int x4), (5, .int x5), (7, .int x7)]) K dX12_asked_119 (hlt _ (by decide)) rfl ?_
        refine g_iinc (v := (x7 + 1)) (L' := [(7, .int (x7 + 1)), (6, .int v_5), (0, .ref m), (1, .int x1), (2, .int x2), (3, .int x3), (4, .int x4), (5, .int x5)]) K dX12_asked_121 7 rfl rfl (hlt _ (by decide)) rfl ?_
        refine g_goto (tgt := 79) K dX12_asked_124 (by decide) ?_
        refine g_sub (L' := [(0, .ref m), (1, .int x1), (2, .int x2), (3, .int x3), (4, .int x4), (5, .int x5), (6, .int v_5), (7, .int (x7 + 1))]) [2, 3, 4, 5, 6, 7, 1, 0] rfl ?_
        exact ih a1 a10 a11 a12 a13 a15 x1 x2 x3 x4 x5 v_5 (x7 + 1) h

set_option maxHeartbeats 4000000 in
set_option maxRecDepth 100000 in
theorem wX12_asked_40 {Γ : gT} {m : Nat} {r : Nat → Nat} {o : Nat → Int32} {A : Nat → Nat → Int32} (K : gOK Γ cX12_asked gU RX12) (hlt : ∀ i, i < 8 → i < g_n Γ) (hRm : g_R Γ = ({ frames := 9, cells := 0, slots := 0, locals := 265 } : Room)) {res : Int32 × ((Nat → Int32)) × ((Nat → Int32)) × ((Nat → Int32)) × ((Nat → Int32)) × ((Nat → Int32)) × ((Nat → Int32))} (hret : ∀ (pc : Nat) (L : List (Nat × Value)) (v : Int32) (w : va_W), decode cX12_asked pc = .ok (.ireturn, 1) → narrow .int (.int v) = .int v → (v = res.1 ∧ w = mw (g_E Γ) m r o (gu (gu (gu (gu (gu (gu A 1 res.2.1) 10 res.2.2.1) 11 res.2.2.2.1) 12 res.2.2.2.2.1) 13 res.2.2.2.2.2.1) 15 res.2.2.2.2.2.2)) → gGO Γ 0 0 pc L [.int v] w) : ∀ (n : Nat) (a1 : (Nat → Int32)) (a10 : (Nat → Int32)) (a11 : (Nat → Int32)) (a12 : (Nat → Int32)) (a13 : (Nat → Int32)) (a15 : (Nat → Int32)) (x1 : Int32) (x2 : Int32) (x3 : Int32) (x4 : Int32) (x5 : Int32), pX12_asked_40 n a1 a10 a11 a12 a13 a15 x1 x2 x3 x4 x5 = some res → gGO Γ 0 0 40 [(0, .ref m), (1, .int x1), (2, .int x2), (3, .int x3), (4, .int x4), (5, .int x5)] [] (mw (g_E Γ) m r o (gu (gu (gu (gu (gu (gu A 1 a1) 10 a10) 11 a11) 12 a12) 13 a13) 15 a15)) := by
  intro n
  induction n with
  | zero => intro _ _ _ _ _ _ _ _ _ _ _ h; cases h
  | succ n ih =>
    intro a1 a10 a11 a12 a13 a15 x1 x2 x3 x4 x5 h
    simp only [pX12_asked_40] at h
    refine g_iload K dX12_asked_40 5 rfl ?_
    refine g_bipush (v := 9) K dX12_asked_42 (by decide) ?_
    refine g_iload_n K dX12_asked_44 rfl 3 rfl ?_
    refine g_isub K dX12_asked_45 ?_
    obtain ⟨ht9, hf9⟩ := gi_br h; clear h
    refine g_icmp_gt (tgt := 148) K dX12_asked_46 (by decide) (fun qh => ?_) (fun qh => ?_)
    · have h := ht9 qh; clear ht9 hf9
      refine g_aload_n K dX12_asked_148 rfl 0 rfl ?_
      refine mg_1 K hin_X12 (u_980) dX12_asked_149 ?_
      refine g_bipush (v := 64) K dX12_asked_152 (by decide) ?_
      refine g_iload_n K dX12_asked_154 rfl 1 rfl ?_
      refine g_iadd K dX12_asked_155 ?_
      refine g_iload_n K dX12_asked_156 rfl 3 rfl ?_
      obtain ⟨b_1, h⟩ := gi_none h
      obtain ⟨f_2, ef_2, h⟩ := gi_nm h
      refine g_iast (f := a1) (ws' := mw (g_E Γ) m r o (gu (gu (gu (gu (gu (gu A 1 f_2) 10 a10) 11 a11) 12 a12) 13 a13) 15 a15)) K 1 rfl (ginb_in b_1) dX12_asked_157 (by rw [ef_2]; rfl) ?_
      refine g_iload K dX12_asked_158 4 rfl ?_
      obtain rfl := Option.some.inj h
      exact hret _ _ _ _ dX12_asked_160 rfl ⟨rfl, rfl⟩
    · have h := hf9 qh; clear ht9 hf9
      refine g_iload K dX12_asked_49 4 rfl ?_
      refine g_bipush (v := (-5)) K dX12_asked_51 (by decide) ?_
      obtain ⟨ht9, hf9⟩ := gi_br h; clear h
      refine g_icmp_ne (tgt := 148) K dX12_asked_53 (by decide) (fun qh => ?_) (fun qh => ?_)
      · have h := hf9 qh; clear ht9 hf9
        refine g_aload_n K dX12_asked_148 rfl 0 rfl ?_
        refine mg_1 K hin_X12 (u_980) dX12_asked_149 ?_
        refine g_bipush (v := 64) K dX12_asked_152 (by decide) ?_
        refine g_iload_n K dX12_asked_154 rfl 1 rfl ?_
        refine g_iadd K dX12_asked_155 ?_
        refine g_iload_n K dX12_asked_156 rfl 3 rfl ?_
        obtain ⟨b_3, h⟩ := gi_none h
        obtain ⟨f_4, ef_4, h⟩ := gi_nm h
        refine g_iast (f := a1) (ws' := mw (g_E Γ) m r o (gu (gu (gu (gu (gu (gu A 1 f_4) 10 a10) 11 a11) 12 a12) 13 a13) 15 a15)) K 1 rfl (ginb_in b_3) dX12_asked_157 (by rw [ef_4]; rfl) ?_
        refine g_iload K dX12_asked_158 4 rfl ?_
        obtain rfl := Option.some.inj h
        exact hret _ _ _ _ dX12_asked_160 rfl ⟨rfl, rfl⟩
      · have h := ht9 qh; clear ht9 hf9
        refine g_aload_n K dX12_asked_56 rfl 0 rfl ?_
        refine mg_1 K hin_X12 (u_980) dX12_asked_57 ?_
        refine g_bipush (v := 64) K dX12_asked_60 (by decide) ?_
        refine g_iload_n K dX12_asked_62 rfl 1 rfl ?_
        refine g_iadd K dX12_asked_63 ?_
        refine g_iload_n K dX12_asked_64 rfl 3 rfl ?_
        refine g_iload K dX12_asked_65 5 rfl ?_
        refine g_iadd K dX12_asked_67 ?_
        obtain ⟨b_5, h⟩ := gi_none h
        obtain ⟨f_6, ef_6, h⟩ := gi_nm h
        refine g_iast (f := a1) (ws' := mw (g_E Γ) m r o (gu (gu (gu (gu (gu (gu A 1 f_6) 10 a10) 11 a11) 12 a12) 13 a13) 15 a15)) K 1 rfl (ginb_in b_5) dX12_asked_68 (by rw [ef_6]; rfl) ?_
        refine g_aload_n K dX12_asked_69 rfl 0 rfl ?_
        obtain ⟨z_7, hz_7, h⟩ := gi_bd h
        refine g_callVv (As := []) (bytes := cX12_gradesAll) (maxL := 2) (ret := none) K (ctX12_gradesAll o (gu (gu (gu (gu (gu (gu A 1 f_6) 10 a10) 11 a11) 12 a12) 13 a13) 15 a15) (res := z_7) hz_7) gc_V_RX12_191_X12_gradesAll rfl qv_X12_gradesAll 0 rfl rfl rfl hRm rfl rfl rfl (by decide) (Nat.le_of_ble_eq_true rfl) (by decide) dX12_asked_70 (fun w hw => ?_)
        subst hw
        refine g_ws (ws' := mw (g_E Γ) m r o (gu (gu (gu (gu (gu (gu A 1 f_6) 10 z_7.1) 11 z_7.2.1) 12 z_7.2.2.1) 13 z_7.2.2.2.1) 15 z_7.2.2.2.2)) rfl ?_
        refine g_iconst (v := 0) K dX12_asked_73 (by decide) ?_
        refine g_istore (L' := [(6, .int 0), (0, .ref m), (1, .int x1), (2, .int x2), (3, .int x3), (4, .int x4), (5, .int x5)]) K dX12_asked_74 (hlt _ (by decide)) rfl ?_
        refine g_iconst (v := 0) K dX12_asked_76 (by decide) ?_
        refine g_istore (L' := [(7, .int 0), (6, .int 0), (0, .ref m), (1, .int x1), (2, .int x2), (3, .int x3), (4, .int x4), (5, .int x5)]) K dX12_asked_77 (hlt _ (by decide)) rfl ?_
        refine g_sub (L' := [(0, .ref m), (1, .int x1), (2, .int x2), (3, .int x3), (4, .int x4), (5, .int x5), (6, .int 0), (7, .int 0)]) [2, 3, 4, 5, 6, 7, 1, 0] rfl ?_
        exact wX12_asked_79 K hlt hRm hret ih 1000 f_6 z_7.1 z_7.2.1 z_7.2.2.1 z_7.2.2.2.1 z_7.2.2.2.2 x1 x2 x3 x4 x5 0 0 h

set_option maxHeartbeats 4000000 in
set_option maxRecDepth 100000 in
theorem wX12_asked {Γ : gT} {m : Nat} {r : Nat → Nat} {o : Nat → Int32} {A : Nat → Nat → Int32} (K : gOK Γ cX12_asked gU RX12) (hlt : ∀ i, i < 8 → i < g_n Γ) (hRm : g_R Γ = ({ frames := 9, cells := 0, slots := 0, locals := 265 } : Room)) {res : Int32 × ((Nat → Int32)) × ((Nat → Int32)) × ((Nat → Int32)) × ((Nat → Int32)) × ((Nat → Int32)) × ((Nat → Int32))} (hret : ∀ (pc : Nat) (L : List (Nat × Value)) (v : Int32) (w : va_W), decode cX12_asked pc = .ok (.ireturn, 1) → narrow .int (.int v) = .int v → (v = res.1 ∧ w = mw (g_E Γ) m r o (gu (gu (gu (gu (gu (gu A 1 res.2.1) 10 res.2.2.1) 11 res.2.2.2.1) 12 res.2.2.2.2.1) 13 res.2.2.2.2.2.1) 15 res.2.2.2.2.2.2)) → gGO Γ 0 0 pc L [.int v] w) (a1 : (Nat → Int32)) (a10 : (Nat → Int32)) (a11 : (Nat → Int32)) (a12 : (Nat → Int32)) (a13 : (Nat → Int32)) (a15 : (Nat → Int32)) (x1 : Int32) (x2 : Int32) (h : pX12_asked a1 a10 a11 a12 a13 a15 x1 x2 = some res) : gGO Γ 0 0 0 [(0, .ref m), (1, .int x1), (2, .int x2)] [] (mw (g_E Γ) m r o (gu (gu (gu (gu (gu (gu A 1 a1) 10 a10) 11 a11) 12 a12) 13 a13) 15 a15)) := by
    unfold pX12_asked at h
    refine g_aload_n K dX12_asked_0 rfl 0 rfl ?_
    refine g_iload_n K dX12_asked_1 rfl 1 rfl ?_
    obtain ⟨z_1, hz_1, h⟩ := gi_bd h
    refine g_callVi (As := [.int x1]) (bytes := cX12_isChief) (maxL := 2) (ret := (some .boolean)) K (ctX12_isChief o (gu (gu (gu (gu (gu (gu A 1 a1) 10 a10) 11 a11) 12 a12) 13 a13) 15 a15) x1 (res := z_1) hz_1) gc_V_RX12_138_X12_isChief rfl qv_X12_isChief 0 rfl rfl rfl hRm rfl rfl rfl (by decide) (Nat.le_of_ble_eq_true rfl) (by decide) dX12_asked_2 (fun v w hw => ?_)
    obtain ⟨hv9, rfl⟩ := hw; have hv9 := hv9.symm; subst hv9
    obtain ⟨ht9, hf9⟩ := gi_br h; clear h
    refine g_if_ne (tgt := 10) K dX12_asked_5 (by decide) (fun qh => ?_) (fun qh => ?_)
    · have h := hf9 qh; clear ht9 hf9
      refine g_iload_n K dX12_asked_10 rfl 2 rfl ?_
      refine g_iconst (v := 0) K dX12_asked_11 (by decide) ?_
      refine g_bipush (v := 50) K dX12_asked_12 (by decide) ?_
      obtain ⟨z_2, hz_2, h⟩ := gi_bd h
      refine g_callSi (As := [.int x2, .int 0, .int 50]) (bytes := cX12_in) (maxL := 3) (ret := (some .boolean)) K (ctX12_in (ws := mw (g_E Γ) m r o (gu (gu (gu (gu (gu (gu A 1 a1) 10 a10) 11 a11) 12 a12) 13 a13) 15 a15)) x2 0 50 (res := z_2) hz_2) gc_S_RX12_50_X12_in rfl qs_X12_in hRm rfl rfl rfl (by decide) (Nat.le_of_ble_eq_true rfl) (by decide) dX12_asked_14 (fun v w hw => ?_)
      obtain ⟨hv9, rfl⟩ := hw; have hv9 := hv9.symm; subst hv9
      obtain ⟨ht9, hf9⟩ := gi_br h; clear h
      refine g_if_ne (tgt := 23) K dX12_asked_17 (by decide) (fun qh => ?_) (fun qh => ?_)
      · have h := hf9 qh; clear ht9 hf9
        refine g_aload_n K dX12_asked_23 rfl 0 rfl ?_
        refine mg_1 K hin_X12 (u_980) dX12_asked_24 ?_
        refine g_bipush (v := 64) K dX12_asked_27 (by decide) ?_
        refine g_iload_n K dX12_asked_29 rfl 1 rfl ?_
        refine g_iadd K dX12_asked_30 ?_
        obtain ⟨b_3, h⟩ := gi_none h
        refine g_iald (f := a1) K 1 rfl (ginb_in b_3) dX12_asked_31 ?_
        obtain ⟨v_4, ev_4, h⟩ := gi_nm h
        refine g_topi ev_4 ?_
        refine g_istore_n (L' := [(3, .int v_4), (0, .ref m), (1, .int x1), (2, .int x2)]) K dX12_asked_32 rfl (hlt _ (by decide)) rfl ?_
        refine g_bipush (v := (-5)) K dX12_asked_33 (by decide) ?_
        refine g_istore (L' := [(4, .int (-5)), (3, .int v_4), (0, .ref m), (1, .int x1), (2, .int x2)]) K dX12_asked_35 (hlt _ (by decide)) rfl ?_
        refine g_iconst (v := 0) K dX12_asked_37 (by decide) ?_
        refine g_istore (L' := [(5, .int 0), (4, .int (-5)), (3, .int v_4), (0, .ref m), (1, .int x1), (2, .int x2)]) K dX12_asked_38 (hlt _ (by decide)) rfl ?_
        refine g_sub (L' := [(0, .ref m), (1, .int x1), (2, .int x2), (3, .int v_4), (4, .int (-5)), (5, .int 0)]) [3, 4, 5, 2, 1, 0] rfl ?_
        exact wX12_asked_40 K hlt hRm hret 1000 a1 a10 a11 a12 a13 a15 x1 x2 v_4 (-5) 0 h
      · have h := ht9 qh; clear ht9 hf9
        refine g_bipush (v := (-2)) K dX12_asked_20 (by decide) ?_
        obtain rfl := Option.some.inj h
        exact hret _ _ _ _ dX12_asked_22 rfl ⟨rfl, rfl⟩
    · have h := ht9 qh; clear ht9 hf9
      refine g_iconst (v := (-1)) K dX12_asked_8 (by decide) ?_
      obtain rfl := Option.some.inj h
      exact hret _ _ _ _ dX12_asked_9 rfl ⟨rfl, rfl⟩

set_option maxRecDepth 100000 in
theorem ctX12_asked {E : gE} {m : Nat} {r : Nat → Nat} (o : Nat → Int32) (A : Nat → Nat → Int32) (x1 : Int32) (x2 : Int32) {res : Int32 × ((Nat → Int32)) × ((Nat → Int32)) × ((Nat → Int32)) × ((Nat → Int32)) × ((Nat → Int32)) × ((Nat → Int32))} (h : pX12_asked (A 1) (A 10) (A 11) (A 12) (A 13) (A 15) x1 x2 = some res) : gMi yX12_asked (.code yX12_asked cX12_asked 8 (some .int) :: gU) ({ frames := 9, cells := 0, slots := 0, locals := 265 } : Room) 0 0 E [.ref m, .int x1, .int x2] (mw E m r o A) (fun v w => v = res.1 ∧ w = mw E m r o (gu (gu (gu (gu (gu (gu A 1 res.2.1) 10 res.2.2.1) 11 res.2.2.2.1) 12 res.2.2.2.2.1) 13 res.2.2.2.2.2.1) 15 res.2.2.2.2.2.2)) := by
  refine g_met_i (by decide +kernel) (Nat.le_of_ble_eq_true rfl) (fun Γ K hn hE hRm _ hret => ?_)
  subst hE
  have hlt : ∀ i, i < 8 → i < g_n Γ := fun i q => by rw [hn]; exact q
  refine g_ws (ws' := mw (g_E Γ) m r o (gu (gu (gu (gu (gu (gu A 1 (A 1)) 10 (A 10)) 11 (A 11)) 12 (A 12)) 13 (A 13)) 15 (A 15))) rfl ?_
  refine g_sub (L' := [(0, .ref m), (1, .int x1), (2, .int x2)]) [0, 1, 2] rfl ?_
  exact wX12_asked K hlt hRm hret (A 1) (A 10) (A 11) (A 12) (A 13) (A 15) x1 x2 h

set_option maxHeartbeats 4000000 in
set_option maxRecDepth 100000 in
theorem wX12_changes {Γ : gT} {m : Nat} {r : Nat → Nat} {o : Nat → Int32} {A : Nat → Nat → Int32} (K : gOK Γ cX12_changes gU RX12) (hlt : ∀ i, i < 5 → i < g_n Γ) (hRm : g_R Γ = ({ frames := 4, cells := 0, slots := 0, locals := 150 } : Room)) {res : ((Nat → Int32))} (hret : ∀ (pc : Nat) (L : List (Nat × Value)) (w : va_W), decode cX12_changes pc = .ok (.return_, 1) → (w = mw (g_E Γ) m r o (gu A 1 res)) → gGO Γ 0 0 pc L [] w) (a1 : (Nat → Int32)) (x1 : Int32) (x2 : Int32) (h : pX12_changes a1 x1 x2 = some res) : gGO Γ 0 0 0 [(0, .ref m), (1, .int x1), (2, .int x2)] [] (mw (g_E Γ) m r o (gu A 1 a1)) := by
    unfold pX12_changes at h
    refine g_aload_n K dX12_changes_0 rfl 0 rfl ?_
    refine mg_1 K hin_X12 (u_980) dX12_changes_1 ?_
    refine g_bipush (v := 31) K dX12_changes_4 (by decide) ?_
    refine g_iload_n K dX12_changes_6 rfl 1 rfl ?_
    refine g_iadd K dX12_changes_7 ?_
    obtain ⟨b_1, h⟩ := gi_none h
    refine g_iald (f := a1) K 1 rfl (ginb_in b_1) dX12_changes_8 ?_
    obtain ⟨v_2, ev_2, h⟩ := gi_nm h
    refine g_topi ev_2 ?_
    refine g_istore_n (L' := [(3, .int v_2), (0, .ref m), (1, .int x1), (2, .int x2)]) K dX12_changes_9 rfl (hlt _ (by decide)) rfl ?_
    refine g_aload_n K dX12_changes_10 rfl 1 rfl ?_
    refine mg_1 K hin_X12 (u_980) dX12_changes_11 ?_
    refine g_bipush (v := 41) K dX12_changes_14 (by decide) ?_
    refine g_iload_n K dX12_changes_16 rfl 2 rfl ?_
    refine g_iadd K dX12_changes_17 ?_
    obtain ⟨b_3, h⟩ := gi_none h
    refine g_iald (f := a1) K 1 rfl (ginb_in b_3) dX12_changes_18 ?_
    obtain ⟨v_4, ev_4, h⟩ := gi_nm h
    refine g_topi ev_4 ?_
    refine g_istore (L' := [(4, .int v_4), (3, .int v_2), (0, .ref m), (1, .int x1), (2, .int x2)]) K dX12_changes_19 (hlt _ (by decide)) rfl ?_
    refine g_aload_n K dX12_changes_21 rfl 2 rfl ?_
    refine mg_1 K hin_X12 (u_980) dX12_changes_22 ?_
    refine g_bipush (v := 31) K dX12_changes_25 (by decide) ?_
    refine g_iload_n K dX12_changes_27 rfl 3 rfl ?_
    refine g_iadd K dX12_changes_28 ?_
    refine g_aload_n K dX12_changes_29 rfl 2 rfl ?_
    refine mg_1 K hin_X12 (u_980) dX12_changes_30 ?_
    refine g_bipush (v := 31) K dX12_changes_33 (by decide) ?_
    refine g_iload_n K dX12_changes_35 rfl 4 rfl ?_
    refine g_iadd K dX12_changes_36 ?_
    obtain ⟨b_5, h⟩ := gi_none h
    refine g_iald (f := a1) K 1 rfl (ginb_in b_5) dX12_changes_37 ?_
    obtain ⟨b_6, h⟩ := gi_none h
    obtain ⟨f_7, ef_7, h⟩ := gi_nm h
    refine g_iast (f := a1) (ws' := mw (g_E Γ) m r o (gu A 1 f_7)) K 1 rfl (ginb_in b_6) dX12_changes_38 (by rw [ef_7]; rfl) ?_
    refine g_aload_n K dX12_changes_39 rfl 2 rfl ?_
    refine mg_1 K hin_X12 (u_980) dX12_changes_40 ?_
    refine g_bipush (v := 41) K dX12_changes_43 (by decide) ?_
    refine g_iload_n K dX12_changes_45 rfl 3 rfl ?_
    refine g_iadd K dX12_changes_46 ?_
    refine g_aload_n K dX12_changes_47 rfl 2 rfl ?_
    refine mg_1 K hin_X12 (u_980) dX12_changes_48 ?_
    refine g_bipush (v := 41) K dX12_changes_51 (by decide) ?_
    refine g_iload_n K dX12_changes_53 rfl 4 rfl ?_
    refine g_iadd K dX12_changes_54 ?_
    obtain ⟨b_8, h⟩ := gi_none h
    refine g_iald (f := f_7) K 1 rfl (ginb_in b_8) dX12_changes_55 ?_
    obtain ⟨b_9, h⟩ := gi_none h
    obtain ⟨f_10, ef_10, h⟩ := gi_nm h
    refine g_iast (f := f_7) (ws' := mw (g_E Γ) m r o (gu A 1 f_10)) K 1 rfl (ginb_in b_9) dX12_changes_56 (by rw [ef_10]; rfl) ?_
    refine g_aload_n K dX12_changes_57 rfl 2 rfl ?_
    refine mg_1 K hin_X12 (u_980) dX12_changes_58 ?_
    refine g_bipush (v := 31) K dX12_changes_61 (by decide) ?_
    refine g_iload_n K dX12_changes_63 rfl 4 rfl ?_
    refine g_iadd K dX12_changes_64 ?_
    refine g_iload_n K dX12_changes_65 rfl 1 rfl ?_
    obtain ⟨b_11, h⟩ := gi_none h
    obtain ⟨f_12, ef_12, h⟩ := gi_nm h
    refine g_iast (f := f_10) (ws' := mw (g_E Γ) m r o (gu A 1 f_12)) K 1 rfl (ginb_in b_11) dX12_changes_66 (by rw [ef_12]; rfl) ?_
    refine g_aload_n K dX12_changes_67 rfl 2 rfl ?_
    refine mg_1 K hin_X12 (u_980) dX12_changes_68 ?_
    refine g_bipush (v := 41) K dX12_changes_71 (by decide) ?_
    refine g_iload_n K dX12_changes_73 rfl 4 rfl ?_
    refine g_iadd K dX12_changes_74 ?_
    refine g_iload K dX12_changes_75 0 rfl ?_
    obtain ⟨b_13, h⟩ := gi_none h
    obtain ⟨f_14, ef_14, h⟩ := gi_nm h
    refine g_iast (f := f_12) (ws' := mw (g_E Γ) m r o (gu A 1 f_14)) K 1 rfl (ginb_in b_13) dX12_changes_77 (by rw [ef_14]; rfl) ?_
    obtain rfl := Option.some.inj h
    exact hret _ _ _ dX12_changes_78 rfl

set_option maxRecDepth 100000 in
theorem ctX12_changes {E : gE} {m : Nat} {r : Nat → Nat} (o : Nat → Int32) (A : Nat → Nat → Int32) (x1 : Int32) (x2 : Int32) {res : ((Nat → Int32))} (h : pX12_changes (A 1) x1 x2 = some res) : gMv yX12_changes (.code yX12_changes cX12_changes 5 none :: gU) ({ frames := 4, cells := 0, slots := 0, locals := 150 } : Room) 0 0 E [.ref m, .int x1, .int x2] (mw E m r o A) (fun w => w = mw E m r o (gu A 1 res)) := by
  refine g_met_v (by decide +kernel) (Nat.le_of_ble_eq_true rfl) (fun Γ K hn hE hRm _ hret => ?_)
  subst hE
  have hlt : ∀ i, i < 5 → i < g_n Γ := fun i q => by rw [hn]; exact q
  refine g_ws (ws' := mw (g_E Γ) m r o (gu A 1 (A 1))) rfl ?_
  refine g_sub (L' := [(0, .ref m), (1, .int x1), (2, .int x2)]) [0, 1, 2] rfl ?_
  exact wX12_changes K hlt hRm hret (A 1) x1 x2 h

set_option maxHeartbeats 4000000 in
set_option maxRecDepth 100000 in
theorem wX12_swap_156 {Γ : gT} {m : Nat} {r : Nat → Nat} {o : Nat → Int32} {A : Nat → Nat → Int32} (K : gOK Γ cX12_swap gU RX12) (hlt : ∀ i, i < 9 → i < g_n Γ) (hRm : g_R Γ = ({ frames := 9, cells := 0, slots := 0, locals := 265 } : Room)) {res : Int32 × ((Nat → Int32)) × ((Nat → Int32)) × ((Nat → Int32)) × ((Nat → Int32)) × ((Nat → Int32)) × ((Nat → Int32))} (hret : ∀ (pc : Nat) (L : List (Nat × Value)) (v : Int32) (w : va_W), decode cX12_swap pc = .ok (.ireturn, 1) → narrow .int (.int v) = .int v → (v = res.1 ∧ w = mw (g_E Γ) m r o (gu (gu (gu (gu (gu (gu A 1 res.2.1) 10 res.2.2.1) 11 res.2.2.2.1) 12 res.2.2.2.2.1) 13 res.2.2.2.2.2.1) 15 res.2.2.2.2.2.2)) → gGO Γ 0 0 pc L [.int v] w) {k19 : (Nat → Int32) → (Nat → Int32) → (Nat → Int32) → (Nat → Int32) → (Nat → Int32) → (Nat → Int32) → Int32 → Int32 → Int32 → Int32 → Option (Int32 × ((Nat → Int32)) × ((Nat → Int32)) × ((Nat → Int32)) × ((Nat → Int32)) × ((Nat → Int32)) × ((Nat → Int32)))} (hk19 : ∀ (a1 : (Nat → Int32)) (a10 : (Nat → Int32)) (a11 : (Nat → Int32)) (a12 : (Nat → Int32)) (a13 : (Nat → Int32)) (a15 : (Nat → Int32)) (x1 : Int32) (x2 : Int32) (x3 : Int32) (x4 : Int32), k19 a1 a10 a11 a12 a13 a15 x1 x2 x3 x4 = some res → gGO Γ 0 0 19 [(0, .ref m), (1, .int x1), (2, .int x2), (3, .int x3), (4, .int x4)] [] (mw (g_E Γ) m r o (gu (gu (gu (gu (gu (gu A 1 a1) 10 a10) 11 a11) 12 a12) 13 a13) 15 a15))) {k37 : (Nat → Int32) → (Nat → Int32) → (Nat → Int32) → (Nat → Int32) → (Nat → Int32) → (Nat → Int32) → Int32 → Int32 → Int32 → Int32 → Int32 → Option (Int32 × ((Nat → Int32)) × ((Nat → Int32)) × ((Nat → Int32)) × ((Nat → Int32)) × ((Nat → Int32)) × ((Nat → Int32)))} (hk37 : ∀ (a1 : (Nat → Int32)) (a10 : (Nat → Int32)) (a11 : (Nat → Int32)) (a12 : (Nat → Int32)) (a13 : (Nat → Int32)) (a15 : (Nat → Int32)) (x1 : Int32) (x2 : Int32) (x3 : Int32) (x4 : Int32) (x5 : Int32), k37 a1 a10 a11 a12 a13 a15 x1 x2 x3 x4 x5 = some res → gGO Γ 0 0 37 [(0, .ref m), (1, .int x1), (2, .int x2), (3, .int x3), (4, .int x4), (5, .int x5)] [] (mw (g_E Γ) m r o (gu (gu (gu (gu (gu (gu A 1 a1) 10 a10) 11 a11) 12 a12) 13 a13) 15 a15))) (a1 : (Nat → Int32)) (a10 : (Nat → Int32)) (a11 : (Nat → Int32)) (a12 : (Nat → Int32)) (a13 : (Nat → Int32)) (a15 : (Nat → Int32)) (x1 : Int32) (x3 : Int32) (x4 : Int32) (x5 : Int32) (x8 : Int32) (y0 : Int32) (y1 : Int32) (h : pX12_swap_156 k19 k37 a1 a10 a11 a12 a13 a15 x1 x3 x4 x5 x8 y0 y1 = some res) : gGO Γ 0 0 156 [(0, .ref m), (1, .int x1), (3, .int x3), (4, .int x4), (5, .int x5), (8, .int x8)] [.int y1, .int y0] (mw (g_E Γ) m r o (gu (gu (gu (gu (gu (gu A 1 a1) 10 a10) 11 a11) 12 a12) 13 a13) 15 a15)) := by
    unfold pX12_swap_156 at h
    refine g_iadd K dX12_swap_156 ?_
    obtain ⟨v_1, ev_1, h⟩ := gi_nm h
    refine g_topi ev_1 ?_
    refine g_istore_n (L' := [(2, .int v_1), (0, .ref m), (1, .int x1), (3, .int x3), (4, .int x4), (5, .int x5), (8, .int x8)]) K dX12_swap_157 rfl (hlt _ (by decide)) rfl ?_
    refine g_iload K dX12_swap_158 6 rfl ?_
    obtain ⟨ht9, hf9⟩ := gi_br h; clear h
    refine g_if_eq (tgt := 180) K dX12_swap_160 (by decide) (fun qh => ?_) (fun qh => ?_)
    · have h := ht9 qh; clear ht9 hf9
      refine g_iload_n K dX12_swap_180 rfl 3 rfl ?_
      refine g_istore_n (L' := [(3, .int x3), (2, .int v_1), (0, .ref m), (1, .int x1), (4, .int x4), (5, .int x5), (8, .int x8)]) K dX12_swap_181 rfl (hlt _ (by decide)) rfl ?_
      refine g_iinc (v := (x5 + 1)) (L' := [(5, .int (x5 + 1)), (3, .int x3), (2, .int v_1), (0, .ref m), (1, .int x1), (4, .int x4), (8, .int x8)]) K dX12_swap_182 5 rfl rfl (hlt _ (by decide)) rfl ?_
      refine g_goto (tgt := 37) K dX12_swap_185 (by decide) ?_
      refine g_sub (L' := [(0, .ref m), (1, .int x1), (2, .int v_1), (3, .int x3), (4, .int x4), (5, .int (x5 + 1))]) [3, 4, 2, 1, 5, 0] rfl ?_
      exact hk37 a1 a10 a11 a12 a13 a15 x1 v_1 x3 x4 (x5 + 1) h
    · have h := hf9 qh; clear ht9 hf9
      refine g_iload_n K dX12_swap_163 rfl 3 rfl ?_
      refine g_bipush (v := (-5)) K dX12_swap_164 (by decide) ?_
      obtain ⟨ht9, hf9⟩ := gi_br h; clear h
      refine g_icmp_ne (tgt := 180) K dX12_swap_166 (by decide) (fun qh => ?_) (fun qh => ?_)
      · have h := hf9 qh; clear ht9 hf9
        refine g_iload_n K dX12_swap_180 rfl 3 rfl ?_
        refine g_istore_n (L' := [(3, .int x3), (2, .int v_1), (0, .ref m), (1, .int x1), (4, .int x4), (5, .int x5), (8, .int x8)]) K dX12_swap_181 rfl (hlt _ (by decide)) rfl ?_
        refine g_iinc (v := (x5 + 1)) (L' := [(5, .int (x5 + 1)), (3, .int x3), (2, .int v_1), (0, .ref m), (1, .int x1), (4, .int x4), (8, .int x8)]) K dX12_swap_182 5 rfl rfl (hlt _ (by decide)) rfl ?_
        refine g_goto (tgt := 37) K dX12_swap_185 (by decide) ?_
        refine g_sub (L' := [(0, .ref m), (1, .int x1), (2, .int v_1), (3, .int x3), (4, .int x4), (5, .int (x5 + 1))]) [3, 4, 2, 1, 5, 0] rfl ?_
        exact hk37 a1 a10 a11 a12 a13 a15 x1 v_1 x3 x4 (x5 + 1) h
      · have h := ht9 qh; clear ht9 hf9
        refine g_bipush (v := 10) K dX12_swap_169 (by decide) ?_
        refine g_iload K dX12_swap_171 4 rfl ?_
        refine g_imul K dX12_swap_173 ?_
        refine g_iload K dX12_swap_174 5 rfl ?_
        refine g_iadd K dX12_swap_176 ?_
        refine g_goto (tgt := 181) K dX12_swap_177 (by decide) ?_
        obtain ⟨v_2, ev_2, h⟩ := gi_nm h
        refine g_topi ev_2 ?_
        refine g_istore_n (L' := [(3, .int v_2), (2, .int v_1), (0, .ref m), (1, .int x1), (4, .int x4), (5, .int x5), (8, .int x8)]) K dX12_swap_181 rfl (hlt _ (by decide)) rfl ?_
        refine g_iinc (v := (x5 + 1)) (L' := [(5, .int (x5 + 1)), (3, .int v_2), (2, .int v_1), (0, .ref m), (1, .int x1), (4, .int x4), (8, .int x8)]) K dX12_swap_182 5 rfl rfl (hlt _ (by decide)) rfl ?_
        refine g_goto (tgt := 37) K dX12_swap_185 (by decide) ?_
        refine g_sub (L' := [(0, .ref m), (1, .int x1), (2, .int v_1), (3, .int v_2), (4, .int x4), (5, .int (x5 + 1))]) [3, 4, 2, 1, 5, 0] rfl ?_
        exact hk37 a1 a10 a11 a12 a13 a15 x1 v_1 v_2 x4 (x5 + 1) h

set_option maxHeartbeats 4000000 in
set_option maxRecDepth 100000 in
theorem wX12_swap_135 {Γ : gT} {m : Nat} {r : Nat → Nat} {o : Nat → Int32} {A : Nat → Nat → Int32} (K : gOK Γ cX12_swap gU RX12) (hlt : ∀ i, i < 9 → i < g_n Γ) (hRm : g_R Γ = ({ frames := 9, cells := 0, slots := 0, locals := 265 } : Room)) {res : Int32 × ((Nat → Int32)) × ((Nat → Int32)) × ((Nat → Int32)) × ((Nat → Int32)) × ((Nat → Int32)) × ((Nat → Int32))} (hret : ∀ (pc : Nat) (L : List (Nat × Value)) (v : Int32) (w : va_W), decode cX12_swap pc = .ok (.ireturn, 1) → narrow .int (.int v) = .int v → (v = res.1 ∧ w = mw (g_E Γ) m r o (gu (gu (gu (gu (gu (gu A 1 res.2.1) 10 res.2.2.1) 11 res.2.2.2.1) 12 res.2.2.2.2.1) 13 res.2.2.2.2.2.1) 15 res.2.2.2.2.2.2)) → gGO Γ 0 0 pc L [.int v] w) {k19 : (Nat → Int32) → (Nat → Int32) → (Nat → Int32) → (Nat → Int32) → (Nat → Int32) → (Nat → Int32) → Int32 → Int32 → Int32 → Int32 → Option (Int32 × ((Nat → Int32)) × ((Nat → Int32)) × ((Nat → Int32)) × ((Nat → Int32)) × ((Nat → Int32)) × ((Nat → Int32)))} (hk19 : ∀ (a1 : (Nat → Int32)) (a10 : (Nat → Int32)) (a11 : (Nat → Int32)) (a12 : (Nat → Int32)) (a13 : (Nat → Int32)) (a15 : (Nat → Int32)) (x1 : Int32) (x2 : Int32) (x3 : Int32) (x4 : Int32), k19 a1 a10 a11 a12 a13 a15 x1 x2 x3 x4 = some res → gGO Γ 0 0 19 [(0, .ref m), (1, .int x1), (2, .int x2), (3, .int x3), (4, .int x4)] [] (mw (g_E Γ) m r o (gu (gu (gu (gu (gu (gu A 1 a1) 10 a10) 11 a11) 12 a12) 13 a13) 15 a15))) {k37 : (Nat → Int32) → (Nat → Int32) → (Nat → Int32) → (Nat → Int32) → (Nat → Int32) → (Nat → Int32) → Int32 → Int32 → Int32 → Int32 → Int32 → Option (Int32 × ((Nat → Int32)) × ((Nat → Int32)) × ((Nat → Int32)) × ((Nat → Int32)) × ((Nat → Int32)) × ((Nat → Int32)))} (hk37 : ∀ (a1 : (Nat → Int32)) (a10 : (Nat → Int32)) (a11 : (Nat → Int32)) (a12 : (Nat → Int32)) (a13 : (Nat → Int32)) (a15 : (Nat → Int32)) (x1 : Int32) (x2 : Int32) (x3 : Int32) (x4 : Int32) (x5 : Int32), k37 a1 a10 a11 a12 a13 a15 x1 x2 x3 x4 x5 = some res → gGO Γ 0 0 37 [(0, .ref m), (1, .int x1), (2, .int x2), (3, .int x3), (4, .int x4), (5, .int x5)] [] (mw (g_E Γ) m r o (gu (gu (gu (gu (gu (gu A 1 a1) 10 a10) 11 a11) 12 a12) 13 a13) 15 a15))) (a1 : (Nat → Int32)) (a10 : (Nat → Int32)) (a11 : (Nat → Int32)) (a12 : (Nat → Int32)) (a13 : (Nat → Int32)) (a15 : (Nat → Int32)) (x1 : Int32) (x2 : Int32) (x3 : Int32) (x4 : Int32) (x5 : Int32) (y0 : Int32) (h : pX12_swap_135 k19 k37 a1 a10 a11 a12 a13 a15 x1 x2 x3 x4 x5 y0 = some res) : gGO Γ 0 0 135 [(0, .ref m), (1, .int x1), (2, .int x2), (3, .int x3), (4, .int x4), (5, .int x5)] [.int y0] (mw (g_E Γ) m r o (gu (gu (gu (gu (gu (gu A 1 a1) 10 a10) 11 a11) 12 a12) 13 a13) 15 a15)) := by
    unfold pX12_swap_135 at h
    refine g_istore (L' := [(8, .int y0), (0, .ref m), (1, .int x1), (2, .int x2), (3, .int x3), (4, .int x4), (5, .int x5)]) K dX12_swap_135 (hlt _ (by decide)) rfl ?_
    refine g_aload_n K dX12_swap_137 rfl 1 rfl ?_
    refine g_iload K dX12_swap_138 5 rfl ?_
    refine g_iload K dX12_swap_140 6 rfl ?_
    obtain ⟨z_1, hz_1, h⟩ := gi_bd h
    refine g_callVv (As := [.int x4, .int x5]) (bytes := cX12_changes) (maxL := 5) (ret := none) K (ctX12_changes o (gu (gu (gu (gu (gu (gu A 1 a1) 10 a10) 11 a11) 12 a12) 13 a13) 15 a15) x4 x5 (res := z_1) hz_1) gc_V_RX12_203_X12_changes rfl qv_X12_changes 0 rfl rfl rfl hRm rfl rfl rfl (by decide) (Nat.le_of_ble_eq_true rfl) (by decide) dX12_swap_142 (fun w hw => ?_)
    subst hw
    refine g_ws (ws' := mw (g_E Γ) m r o (gu (gu (gu (gu (gu (gu A 1 z_1) 10 a10) 11 a11) 12 a12) 13 a13) 15 a15)) rfl ?_
    refine g_iload_n K dX12_swap_145 rfl 3 rfl ?_
    refine g_iload K dX12_swap_146 0 rfl ?_
    obtain ⟨ht9, hf9⟩ := gi_br h; clear h
    refine g_if_eq (tgt := 155) K dX12_swap_148 (by decide) (fun qh => ?_) (fun qh => ?_)
    · have h := ht9 qh; clear ht9 hf9
      refine g_iconst (v := 0) K dX12_swap_155 (by decide) ?_
      refine g_sub (L' := [(0, .ref m), (1, .int x1), (3, .int x3), (4, .int x4), (5, .int x5), (8, .int y0)]) [1, 2, 4, 5, 6, 0] rfl ?_
      exact wX12_swap_156 K hlt hRm hret hk19 hk37 z_1 a10 a11 a12 a13 a15 x1 x3 x4 x5 y0 x2 0 h
    · have h := hf9 qh; clear ht9 hf9
      refine g_iconst (v := 1) K dX12_swap_151 (by decide) ?_
      refine g_goto (tgt := 156) K dX12_swap_152 (by decide) ?_
      refine g_sub (L' := [(0, .ref m), (1, .int x1), (3, .int x3), (4, .int x4), (5, .int x5), (8, .int y0)]) [1, 2, 4, 5, 6, 0] rfl ?_
      exact wX12_swap_156 K hlt hRm hret hk19 hk37 z_1 a10 a11 a12 a13 a15 x1 x3 x4 x5 y0 x2 1 h

set_option maxHeartbeats 4000000 in
set_option maxRecDepth 100000 in
theorem wX12_swap_37 {Γ : gT} {m : Nat} {r : Nat → Nat} {o : Nat → Int32} {A : Nat → Nat → Int32} (K : gOK Γ cX12_swap gU RX12) (hlt : ∀ i, i < 9 → i < g_n Γ) (hRm : g_R Γ = ({ frames := 9, cells := 0, slots := 0, locals := 265 } : Room)) {res : Int32 × ((Nat → Int32)) × ((Nat → Int32)) × ((Nat → Int32)) × ((Nat → Int32)) × ((Nat → Int32)) × ((Nat → Int32))} (hret : ∀ (pc : Nat) (L : List (Nat × Value)) (v : Int32) (w : va_W), decode cX12_swap pc = .ok (.ireturn, 1) → narrow .int (.int v) = .int v → (v = res.1 ∧ w = mw (g_E Γ) m r o (gu (gu (gu (gu (gu (gu A 1 res.2.1) 10 res.2.2.1) 11 res.2.2.2.1) 12 res.2.2.2.2.1) 13 res.2.2.2.2.2.1) 15 res.2.2.2.2.2.2)) → gGO Γ 0 0 pc L [.int v] w) {k19 : (Nat → Int32) → (Nat → Int32) → (Nat → Int32) → (Nat → Int32) → (Nat → Int32) → (Nat → Int32) → Int32 → Int32 → Int32 → Int32 → Option (Int32 × ((Nat → Int32)) × ((Nat → Int32)) × ((Nat → Int32)) × ((Nat → Int32)) × ((Nat → Int32)) × ((Nat → Int32)))} (hk19 : ∀ (a1 : (Nat → Int32)) (a10 : (Nat → Int32)) (a11 : (Nat → Int32)) (a12 : (Nat → Int32)) (a13 : (Nat → Int32)) (a15 : (Nat → Int32)) (x1 : Int32) (x2 : Int32) (x3 : Int32) (x4 : Int32), k19 a1 a10 a11 a12 a13 a15 x1 x2 x3 x4 = some res → gGO Γ 0 0 19 [(0, .ref m), (1, .int x1), (2, .int x2), (3, .int x3), (4, .int x4)] [] (mw (g_E Γ) m r o (gu (gu (gu (gu (gu (gu A 1 a1) 10 a10) 11 a11) 12 a12) 13 a13) 15 a15))) : ∀ (n : Nat) (a1 : (Nat → Int32)) (a10 : (Nat → Int32)) (a11 : (Nat → Int32)) (a12 : (Nat → Int32)) (a13 : (Nat → Int32)) (a15 : (Nat → Int32)) (x1 : Int32) (x2 : Int32) (x3 : Int32) (x4 : Int32) (x5 : Int32), pX12_swap_37 k19 n a1 a10 a11 a12 a13 a15 x1 x2 x3 x4 x5 = some res → gGO Γ 0 0 37 [(0, .ref m), (1, .int x1), (2, .int x2), (3, .int x3), (4, .int x4), (5, .int x5)] [] (mw (g_E Γ) m r o (gu (gu (gu (gu (gu (gu A 1 a1) 10 a10) 11 a11) 12 a12) 13 a13) 15 a15)) := by
  intro n
  induction n with
  | zero => intro _ _ _ _ _ _ _ _ _ _ _ h; cases h
  | succ n ih =>
    intro a1 a10 a11 a12 a13 a15 x1 x2 x3 x4 x5 h
    simp only [pX12_swap_37] at h
    refine g_iload K dX12_swap_37 5 rfl ?_
    refine g_aload_n K dX12_swap_39 rfl 0 rfl ?_
    refine mg_1 K hin_X12 (u_980) dX12_swap_40 ?_
    refine g_bipush (v := 51) K dX12_swap_43 (by decide) ?_
    obtain ⟨b_1, h⟩ := gi_none h
    refine g_iald (f := a1) K 1 rfl (ginb_in b_1) dX12_swap_45 ?_
    obtain ⟨ht9, hf9⟩ := gi_br h; clear h
    refine g_icmp_ge (tgt := 188) K dX12_swap_46 (by decide) (fun qh => ?_) (fun qh => ?_)
    · have h := ht9 qh; clear ht9 hf9
      refine g_iinc (v := (x4 + 1)) (L' := [(4, .int (x4 + 1)), (0, .ref m), (1, .int x1), (2, .int x2), (3, .int x3), (5, .int x5)]) K dX12_swap_188 4 rfl rfl (hlt _ (by decide)) rfl ?_
      refine g_goto (tgt := 19) K dX12_swap_191 (by decide) ?_
      refine g_sub (L' := [(0, .ref m), (1, .int x1), (2, .int x2), (3, .int x3), (4, .int (x4 + 1))]) [1, 2, 3, 4, 0] rfl ?_
      exact hk19 a1 a10 a11 a12 a13 a15 x1 x2 x3 (x4 + 1) h
    · have h := hf9 qh; clear ht9 hf9
      refine g_aload_n K dX12_swap_49 rfl 0 rfl ?_
      refine mg_1 K hin_X12 (u_980) dX12_swap_50 ?_
      refine g_bipush (v := 31) K dX12_swap_53 (by decide) ?_
      refine g_iload K dX12_swap_55 4 rfl ?_
      refine g_iadd K dX12_swap_57 ?_
      obtain ⟨b_2, h⟩ := gi_none h
      refine g_iald (f := a1) K 1 rfl (ginb_in b_2) dX12_swap_58 ?_
      refine g_aload_n K dX12_swap_59 rfl 0 rfl ?_
      refine mg_1 K hin_X12 (u_980) dX12_swap_60 ?_
      refine g_bipush (v := 31) K dX12_swap_63 (by decide) ?_
      refine g_iload K dX12_swap_65 5 rfl ?_
      refine g_iadd K dX12_swap_67 ?_
      obtain ⟨b_3, h⟩ := gi_none h
      refine g_iald (f := a1) K 1 rfl (ginb_in b_3) dX12_swap_68 ?_
      obtain ⟨ht9, hf9⟩ := gi_br h; clear h
      refine g_icmp_eq (tgt := 182) K dX12_swap_69 (by decide) (fun qh => ?_) (fun qh => ?_)
      · have h := ht9 qh; clear ht9 hf9
        refine g_iinc (v := (x5 + 1)) (L' := [(5, .int (x5 + 1)), (0, .ref m), (1, .int x1), (2, .int x2), (3, .int x3), (4, .int x4)]) K dX12_swap_182 5 rfl rfl (hlt _ (by decide)) rfl ?_
        refine g_goto (tgt := 37) K dX12_swap_185 (by decide) ?_
        refine g_sub (L' := [(0, .ref m), (1, .int x1), (2, .int x2), (3, .int x3), (4, .int x4), (5, .int (x5 + 1))]) [1, 2, 3, 4, 5, 0] rfl ?_
        exact ih a1 a10 a11 a12 a13 a15 x1 x2 x3 x4 (x5 + 1) h
      · have h := hf9 qh; clear ht9 hf9
        refine g_aload_n K dX12_swap_72 rfl 0 rfl ?_
        obtain ⟨z_4, hz_4, h⟩ := gi_bd h
        refine g_callVv (As := []) (bytes := cX12_gradesAll) (maxL := 2) (ret := none) K (ctX12_gradesAll o (gu (gu (gu (gu (gu (gu A 1 a1) 10 a10) 11 a11) 12 a12) 13 a13) 15 a15) (res := z_4) hz_4) gc_V_RX12_191_X12_gradesAll rfl qv_X12_gradesAll 0 rfl rfl rfl hRm rfl rfl rfl (by decide) (Nat.le_of_ble_eq_true rfl) (by decide) dX12_swap_73 (fun w hw => ?_)
        subst hw
        refine g_ws (ws' := mw (g_E Γ) m r o (gu (gu (gu (gu (gu (gu A 1 a1) 10 z_4.1) 11 z_4.2.1) 12 z_4.2.2.1) 13 z_4.2.2.2.1) 15 z_4.2.2.2.2)) rfl ?_
        refine g_aload_n K dX12_swap_76 rfl 0 rfl ?_
        refine mg_13 K hin_X12 (u_992) dX12_swap_77 ?_
        refine g_iload K dX12_swap_80 4 rfl ?_
        obtain ⟨b_5, h⟩ := gi_none h
        refine g_iald (f := z_4.2.2.2.1) K 7 rfl (ginb_in b_5) dX12_swap_82 ?_
        obtain ⟨v_6, ev_6, h⟩ := gi_nm h
        refine g_topi ev_6 ?_
        refine g_istore (L' := [(6, .int v_6), (0, .ref m), (1, .int x1), (2, .int x2), (3, .int x3), (4, .int x4), (5, .int x5)]) K dX12_swap_83 (hlt _ (by decide)) rfl ?_
        refine g_aload_n K dX12_swap_85 rfl 1 rfl ?_
        refine mg_13 K hin_X12 (u_992) dX12_swap_86 ?_
        refine g_iload K dX12_swap_89 6 rfl ?_
        obtain ⟨b_7, h⟩ := gi_none h
        refine g_iald (f := z_4.2.2.2.1) K 7 rfl (ginb_in b_7) dX12_swap_91 ?_
        obtain ⟨v_8, ev_8, h⟩ := gi_nm h
        refine g_topi ev_8 ?_
        refine g_istore (L' := [(7, .int v_8), (6, .int v_6), (0, .ref m), (1, .int x1), (2, .int x2), (3, .int x3), (4, .int x4), (5, .int x5)]) K dX12_swap_92 (hlt _ (by decide)) rfl ?_
        refine g_aload_n K dX12_swap_94 rfl 2 rfl ?_
        refine g_iload K dX12_swap_95 6 rfl ?_
        refine g_iload K dX12_swap_97 7 rfl ?_
        obtain ⟨z_9, hz_9, h⟩ := gi_bd h
        refine g_callVv (As := [.int x4, .int x5]) (bytes := cX12_changes) (maxL := 5) (ret := none) K (ctX12_changes o (gu (gu (gu (gu (gu (gu A 1 a1) 10 z_4.1) 11 z_4.2.1) 12 z_4.2.2.1) 13 z_4.2.2.2.1) 15 z_4.2.2.2.2) x4 x5 (res := z_9) hz_9) gc_V_RX12_203_X12_changes rfl qv_X12_changes 0 rfl rfl rfl hRm rfl rfl rfl (by decide) (Nat.le_of_ble_eq_true rfl) (by decide) dX12_swap_99 (fun w hw => ?_)
        subst hw
        refine g_ws (ws' := mw (g_E Γ) m r o (gu (gu (gu (gu (gu (gu A 1 z_9) 10 z_4.1) 11 z_4.2.1) 12 z_4.2.2.1) 13 z_4.2.2.2.1) 15 z_4.2.2.2.2)) rfl ?_
        refine g_aload_n K dX12_swap_102 rfl 2 rfl ?_
        obtain ⟨z_10, hz_10, h⟩ := gi_bd h
        refine g_callVv (As := []) (bytes := cX12_gradesAll) (maxL := 2) (ret := none) K (ctX12_gradesAll o (gu (gu (gu (gu (gu (gu A 1 z_9) 10 z_4.1) 11 z_4.2.1) 12 z_4.2.2.1) 13 z_4.2.2.2.1) 15 z_4.2.2.2.2) (res := z_10) hz_10) gc_V_RX12_191_X12_gradesAll rfl qv_X12_gradesAll 0 rfl rfl rfl hRm rfl rfl rfl (by decide) (Nat.le_of_ble_eq_true rfl) (by decide) dX12_swap_103 (fun w hw => ?_)
        subst hw
        refine g_ws (ws' := mw (g_E Γ) m r o (gu (gu (gu (gu (gu (gu A 1 z_9) 10 z_10.1) 11 z_10.2.1) 12 z_10.2.2.1) 13 z_10.2.2.2.1) 15 z_10.2.2.2.2)) rfl ?_
        refine g_aload_n K dX12_swap_106 rfl 2 rfl ?_
        refine mg_13 K hin_X12 (u_992) dX12_swap_107 ?_
        refine g_iload K dX12_swap_110 6 rfl ?_
        obtain ⟨b_11, h⟩ := gi_none h
        refine g_iald (f := z_10.2.2.2.1) K 7 rfl (ginb_in b_11) dX12_swap_112 ?_
        refine g_iload K dX12_swap_113 1 rfl ?_
        obtain ⟨ht9, hf9⟩ := gi_br h; clear h
        refine g_icmp_le (tgt := 134) K dX12_swap_115 (by decide) (fun qh => ?_) (fun qh => ?_)
        · have h := ht9 qh; clear ht9 hf9
          refine g_iconst (v := 0) K dX12_swap_134 (by decide) ?_
          refine g_sub (L' := [(0, .ref m), (1, .int x1), (2, .int x2), (3, .int x3), (4, .int x4), (5, .int x5)]) [2, 3, 4, 5, 6, 7] rfl ?_
          exact wX12_swap_135 K hlt hRm hret hk19 ih z_9 z_10.1 z_10.2.1 z_10.2.2.1 z_10.2.2.2.1 z_10.2.2.2.2 x1 x2 x3 x4 x5 0 h
        · have h := hf9 qh; clear ht9 hf9
          refine g_aload_n K dX12_swap_118 rfl 2 rfl ?_
          refine mg_13 K hin_X12 (u_992) dX12_swap_119 ?_
          refine g_iload K dX12_swap_122 7 rfl ?_
          obtain ⟨b_12, h⟩ := gi_none h
          refine g_iald (f := z_10.2.2.2.1) K 7 rfl (ginb_in b_12) dX12_swap_124 ?_
          refine g_iload K dX12_swap_125 0 rfl ?_
          obtain ⟨ht9, hf9⟩ := gi_br h; clear h
          refine g_icmp_le (tgt := 134) K dX12_swap_127 (by decide) (fun qh => ?_) (fun qh => ?_)
          · have h := ht9 qh; clear ht9 hf9
            refine g_iconst (v := 0) K dX12_swap_134 (by decide) ?_
            refine g_sub (L' := [(0, .ref m), (1, .int x1), (2, .int x2), (3, .int x3), (4, .int x4), (5, .int x5)]) [2, 3, 4, 5, 6, 7] rfl ?_
            exact wX12_swap_135 K hlt hRm hret hk19 ih z_9 z_10.1 z_10.2.1 z_10.2.2.1 z_10.2.2.2.1 z_10.2.2.2.2 x1 x2 x3 x4 x5 0 h
          · have h := hf9 qh; clear ht9 hf9
            refine g_iconst (v := 1) K dX12_swap_130 (by decide) ?_
            refine g_goto (tgt := 135) K dX12_swap_131 (by decide) ?_
            refine g_sub (L' := [(0, .ref m), (1, .int x1), (2, .int x2), (3, .int x3), (4, .int x4), (5, .int x5)]) [2, 3, 4, 5, 6, 7] rfl ?_
            exact wX12_swap_135 K hlt hRm hret hk19 ih z_9 z_10.1 z_10.2.1 z_10.2.2.1 z_10.2.2.2.1 z_10.2.2.2.2 x1 x2 x3 x4 x5 1 h

set_option maxHeartbeats 4000000 in
set_option maxRecDepth 100000 in
theorem wX12_swap_19 {Γ : gT} {m : Nat} {r : Nat → Nat} {o : Nat → Int32} {A : Nat → Nat → Int32} (K : gOK Γ cX12_swap gU RX12) (hlt : ∀ i, i < 9 → i < g_n Γ) (hRm : g_R Γ = ({ frames := 9, cells := 0, slots := 0, locals := 265 } : Room)) {res : Int32 × ((Nat → Int32)) × ((Nat → Int32)) × ((Nat → Int32)) × ((Nat → Int32)) × ((Nat → Int32)) × ((Nat → Int32))} (hret : ∀ (pc : Nat) (L : List (Nat × Value)) (v : Int32) (w : va_W), decode cX12_swap pc = .ok (.ireturn, 1) → narrow .int (.int v) = .int v → (v = res.1 ∧ w = mw (g_E Γ) m r o (gu (gu (gu (gu (gu (gu A 1 res.2.1) 10 res.2.2.1) 11 res.2.2.2.1) 12 res.2.2.2.2.1) 13 res.2.2.2.2.2.1) 15 res.2.2.2.2.2.2)) → gGO Γ 0 0 pc L [.int v] w) : ∀ (n : Nat) (a1 : (Nat → Int32)) (a10 : (Nat → Int32)) (a11 : (Nat → Int32)) (a12 : (Nat → Int32)) (a13 : (Nat → Int32)) (a15 : (Nat → Int32)) (x1 : Int32) (x2 : Int32) (x3 : Int32) (x4 : Int32), pX12_swap_19 n a1 a10 a11 a12 a13 a15 x1 x2 x3 x4 = some res → gGO Γ 0 0 19 [(0, .ref m), (1, .int x1), (2, .int x2), (3, .int x3), (4, .int x4)] [] (mw (g_E Γ) m r o (gu (gu (gu (gu (gu (gu A 1 a1) 10 a10) 11 a11) 12 a12) 13 a13) 15 a15)) := by
  intro n
  induction n with
  | zero => intro _ _ _ _ _ _ _ _ _ _ h; cases h
  | succ n ih =>
    intro a1 a10 a11 a12 a13 a15 x1 x2 x3 x4 h
    simp only [pX12_swap_19] at h
    refine g_iload K dX12_swap_19 4 rfl ?_
    refine g_aload_n K dX12_swap_21 rfl 0 rfl ?_
    refine mg_1 K hin_X12 (u_980) dX12_swap_22 ?_
    refine g_bipush (v := 51) K dX12_swap_25 (by decide) ?_
    obtain ⟨b_1, h⟩ := gi_none h
    refine g_iald (f := a1) K 1 rfl (ginb_in b_1) dX12_swap_27 ?_
    obtain ⟨ht9, hf9⟩ := gi_br h; clear h
    refine g_icmp_ge (tgt := 194) K dX12_swap_28 (by decide) (fun qh => ?_) (fun qh => ?_)
    · have h := ht9 qh; clear ht9 hf9
      refine g_iload_n K dX12_swap_194 rfl 1 rfl ?_
      obtain ⟨ht9, hf9⟩ := gi_br h; clear h
      refine g_if_ne (tgt := 202) K dX12_swap_195 (by decide) (fun qh => ?_) (fun qh => ?_)
      · have h := hf9 qh; clear ht9 hf9
        refine g_iload_n K dX12_swap_202 rfl 3 rfl ?_
        obtain rfl := Option.some.inj h
        exact hret _ _ _ _ dX12_swap_203 rfl ⟨rfl, rfl⟩
      · have h := ht9 qh; clear ht9 hf9
        refine g_iload_n K dX12_swap_198 rfl 2 rfl ?_
        refine g_goto (tgt := 203) K dX12_swap_199 (by decide) ?_
        obtain rfl := Option.some.inj h
        exact hret _ _ _ _ dX12_swap_203 rfl ⟨rfl, rfl⟩
    · have h := hf9 qh; clear ht9 hf9
      refine g_iload K dX12_swap_31 4 rfl ?_
      refine g_iconst (v := 1) K dX12_swap_33 (by decide) ?_
      refine g_iadd K dX12_swap_34 ?_
      obtain ⟨v_2, ev_2, h⟩ := gi_nm h
      refine g_topi ev_2 ?_
      refine g_istore (L' := [(5, .int v_2), (0, .ref m), (1, .int x1), (2, .int x2), (3, .int x3), (4, .int x4)]) K dX12_swap_35 (hlt _ (by decide)) rfl ?_
      refine g_sub (L' := [(0, .ref m), (1, .int x1), (2, .int x2), (3, .int x3), (4, .int x4), (5, .int v_2)]) [1, 2, 3, 4, 5, 0] rfl ?_
      exact wX12_swap_37 K hlt hRm hret ih 1000 a1 a10 a11 a12 a13 a15 x1 x2 x3 x4 v_2 h

set_option maxHeartbeats 4000000 in
set_option maxRecDepth 100000 in
theorem wX12_swap {Γ : gT} {m : Nat} {r : Nat → Nat} {o : Nat → Int32} {A : Nat → Nat → Int32} (K : gOK Γ cX12_swap gU RX12) (hlt : ∀ i, i < 9 → i < g_n Γ) (hRm : g_R Γ = ({ frames := 9, cells := 0, slots := 0, locals := 265 } : Room)) {res : Int32 × ((Nat → Int32)) × ((Nat → Int32)) × ((Nat → Int32)) × ((Nat → Int32)) × ((Nat → Int32)) × ((Nat → Int32))} (hret : ∀ (pc : Nat) (L : List (Nat × Value)) (v : Int32) (w : va_W), decode cX12_swap pc = .ok (.ireturn, 1) → narrow .int (.int v) = .int v → (v = res.1 ∧ w = mw (g_E Γ) m r o (gu (gu (gu (gu (gu (gu A 1 res.2.1) 10 res.2.2.1) 11 res.2.2.2.1) 12 res.2.2.2.2.1) 13 res.2.2.2.2.2.1) 15 res.2.2.2.2.2.2)) → gGO Γ 0 0 pc L [.int v] w) (a1 : (Nat → Int32)) (a10 : (Nat → Int32)) (a11 : (Nat → Int32)) (a12 : (Nat → Int32)) (a13 : (Nat → Int32)) (a15 : (Nat → Int32)) (x1 : Int32) (h : pX12_swap a1 a10 a11 a12 a13 a15 x1 = some res) : gGO Γ 0 0 0 [(0, .ref m), (1, .int x1)] [] (mw (g_E Γ) m r o (gu (gu (gu (gu (gu (gu A 1 a1) 10 a10) 11 a11) 12 a12) 13 a13) 15 a15)) := by
    unfold pX12_swap at h
    refine g_iload_n K dX12_swap_0 rfl 1 rfl ?_
    refine g_iconst (v := 0) K dX12_swap_1 (by decide) ?_
    refine g_iconst (v := 1) K dX12_swap_2 (by decide) ?_
    obtain ⟨z_1, hz_1, h⟩ := gi_bd h
    refine g_callSi (As := [.int x1, .int 0, .int 1]) (bytes := cX12_in) (maxL := 3) (ret := (some .boolean)) K (ctX12_in (ws := mw (g_E Γ) m r o (gu (gu (gu (gu (gu (gu A 1 a1) 10 a10) 11 a11) 12 a12) 13 a13) 15 a15)) x1 0 1 (res := z_1) hz_1) gc_S_RX12_50_X12_in rfl qs_X12_in hRm rfl rfl rfl (by decide) (Nat.le_of_ble_eq_true rfl) (by decide) dX12_swap_3 (fun v w hw => ?_)
    obtain ⟨hv9, rfl⟩ := hw; have hv9 := hv9.symm; subst hv9
    obtain ⟨ht9, hf9⟩ := gi_br h; clear h
    refine g_if_ne (tgt := 11) K dX12_swap_6 (by decide) (fun qh => ?_) (fun qh => ?_)
    · have h := hf9 qh; clear ht9 hf9
      refine g_iconst (v := 0) K dX12_swap_11 (by decide) ?_
      refine g_istore_n (L' := [(2, .int 0), (0, .ref m), (1, .int x1)]) K dX12_swap_12 rfl (hlt _ (by decide)) rfl ?_
      refine g_bipush (v := (-5)) K dX12_swap_13 (by decide) ?_
      refine g_istore_n (L' := [(3, .int (-5)), (2, .int 0), (0, .ref m), (1, .int x1)]) K dX12_swap_15 rfl (hlt _ (by decide)) rfl ?_
      refine g_iconst (v := 0) K dX12_swap_16 (by decide) ?_
      refine g_istore (L' := [(4, .int 0), (3, .int (-5)), (2, .int 0), (0, .ref m), (1, .int x1)]) K dX12_swap_17 (hlt _ (by decide)) rfl ?_
      refine g_sub (L' := [(0, .ref m), (1, .int x1), (2, .int 0), (3, .int (-5)), (4, .int 0)]) [3, 4, 2, 1, 0] rfl ?_
      exact wX12_swap_19 K hlt hRm hret 1000 a1 a10 a11 a12 a13 a15 x1 0 (-5) 0 h
    · have h := ht9 qh; clear ht9 hf9
      refine g_iconst (v := (-1)) K dX12_swap_9 (by decide) ?_
      obtain rfl := Option.some.inj h
      exact hret _ _ _ _ dX12_swap_10 rfl ⟨rfl, rfl⟩

set_option maxRecDepth 100000 in
theorem ctX12_swap {E : gE} {m : Nat} {r : Nat → Nat} (o : Nat → Int32) (A : Nat → Nat → Int32) (x1 : Int32) {res : Int32 × ((Nat → Int32)) × ((Nat → Int32)) × ((Nat → Int32)) × ((Nat → Int32)) × ((Nat → Int32)) × ((Nat → Int32))} (h : pX12_swap (A 1) (A 10) (A 11) (A 12) (A 13) (A 15) x1 = some res) : gMi yX12_swap (.code yX12_swap cX12_swap 9 (some .int) :: gU) ({ frames := 9, cells := 0, slots := 0, locals := 265 } : Room) 0 0 E [.ref m, .int x1] (mw E m r o A) (fun v w => v = res.1 ∧ w = mw E m r o (gu (gu (gu (gu (gu (gu A 1 res.2.1) 10 res.2.2.1) 11 res.2.2.2.1) 12 res.2.2.2.2.1) 13 res.2.2.2.2.2.1) 15 res.2.2.2.2.2.2)) := by
  refine g_met_i (by decide +kernel) (Nat.le_of_ble_eq_true rfl) (fun Γ K hn hE hRm _ hret => ?_)
  subst hE
  have hlt : ∀ i, i < 9 → i < g_n Γ := fun i q => by rw [hn]; exact q
  refine g_ws (ws' := mw (g_E Γ) m r o (gu (gu (gu (gu (gu (gu A 1 (A 1)) 10 (A 10)) 11 (A 11)) 12 (A 12)) 13 (A 13)) 15 (A 15))) rfl ?_
  refine g_sub (L' := [(0, .ref m), (1, .int x1)]) [0, 1] rfl ?_
  exact wX12_swap K hlt hRm hret (A 1) (A 10) (A 11) (A 12) (A 13) (A 15) x1 h

set_option maxHeartbeats 4000000 in
set_option maxRecDepth 100000 in
theorem wX12_newOne {Γ : gT} {m : Nat} {r : Nat → Nat} {o : Nat → Int32} {A : Nat → Nat → Int32} (K : gOK Γ cX12_newOne gU RX12) (hlt : ∀ i, i < 2 → i < g_n Γ) (hRm : g_R Γ = ({ frames := 4, cells := 0, slots := 0, locals := 150 } : Room)) {res : ((Nat → Int32))} (hret : ∀ (pc : Nat) (L : List (Nat × Value)) (w : va_W), decode cX12_newOne pc = .ok (.return_, 1) → (w = mw (g_E Γ) m r o (gu A 1 res)) → gGO Γ 0 0 pc L [] w) (a1 : (Nat → Int32)) (x1 : Int32) (h : pX12_newOne a1 x1 = some res) : gGO Γ 0 0 0 [(0, .ref m), (1, .int x1)] [] (mw (g_E Γ) m r o (gu A 1 a1)) := by
    unfold pX12_newOne at h
    refine g_aload_n K dX12_newOne_0 rfl 0 rfl ?_
    refine mg_1 K hin_X12 (u_980) dX12_newOne_1 ?_
    refine g_iconst (v := 1) K dX12_newOne_4 (by decide) ?_
    refine g_iload_n K dX12_newOne_5 rfl 1 rfl ?_
    refine g_iadd K dX12_newOne_6 ?_
    refine g_aload_n K dX12_newOne_7 rfl 0 rfl ?_
    refine mg_1 K hin_X12 (u_980) dX12_newOne_8 ?_
    refine g_bipush (v := 57) K dX12_newOne_11 (by decide) ?_
    obtain ⟨b_1, h⟩ := gi_none h
    refine g_iald (f := a1) K 1 rfl (ginb_in b_1) dX12_newOne_13 ?_
    obtain ⟨b_2, h⟩ := gi_none h
    obtain ⟨f_3, ef_3, h⟩ := gi_nm h
    refine g_iast (f := a1) (ws' := mw (g_E Γ) m r o (gu A 1 f_3)) K 1 rfl (ginb_in b_2) dX12_newOne_14 (by rw [ef_3]; rfl) ?_
    refine g_aload_n K dX12_newOne_15 rfl 0 rfl ?_
    refine mg_1 K hin_X12 (u_980) dX12_newOne_16 ?_
    refine g_bipush (v := 11) K dX12_newOne_19 (by decide) ?_
    refine g_iload_n K dX12_newOne_21 rfl 1 rfl ?_
    refine g_iadd K dX12_newOne_22 ?_
    refine g_aload_n K dX12_newOne_23 rfl 0 rfl ?_
    refine mg_1 K hin_X12 (u_980) dX12_newOne_24 ?_
    refine g_bipush (v := 58) K dX12_newOne_27 (by decide) ?_
    obtain ⟨b_4, h⟩ := gi_none h
    refine g_iald (f := f_3) K 1 rfl (ginb_in b_4) dX12_newOne_29 ?_
    obtain ⟨b_5, h⟩ := gi_none h
    obtain ⟨f_6, ef_6, h⟩ := gi_nm h
    refine g_iast (f := f_3) (ws' := mw (g_E Γ) m r o (gu A 1 f_6)) K 1 rfl (ginb_in b_5) dX12_newOne_30 (by rw [ef_6]; rfl) ?_
    refine g_aload_n K dX12_newOne_31 rfl 0 rfl ?_
    refine mg_1 K hin_X12 (u_980) dX12_newOne_32 ?_
    refine g_bipush (v := 21) K dX12_newOne_35 (by decide) ?_
    refine g_iload_n K dX12_newOne_37 rfl 1 rfl ?_
    refine g_iadd K dX12_newOne_38 ?_
    refine g_iconst (v := 0) K dX12_newOne_39 (by decide) ?_
    obtain ⟨b_7, h⟩ := gi_none h
    obtain ⟨f_8, ef_8, h⟩ := gi_nm h
    refine g_iast (f := f_6) (ws' := mw (g_E Γ) m r o (gu A 1 f_8)) K 1 rfl (ginb_in b_7) dX12_newOne_40 (by rw [ef_8]; rfl) ?_
    obtain rfl := Option.some.inj h
    exact hret _ _ _ dX12_newOne_41 rfl

set_option maxRecDepth 100000 in
theorem ctX12_newOne {E : gE} {m : Nat} {r : Nat → Nat} (o : Nat → Int32) (A : Nat → Nat → Int32) (x1 : Int32) {res : ((Nat → Int32))} (h : pX12_newOne (A 1) x1 = some res) : gMv yX12_newOne (.code yX12_newOne cX12_newOne 2 none :: gU) ({ frames := 4, cells := 0, slots := 0, locals := 150 } : Room) 0 0 E [.ref m, .int x1] (mw E m r o A) (fun w => w = mw E m r o (gu A 1 res)) := by
  refine g_met_v (by decide +kernel) (Nat.le_of_ble_eq_true rfl) (fun Γ K hn hE hRm _ hret => ?_)
  subst hE
  have hlt : ∀ i, i < 2 → i < g_n Γ := fun i q => by rw [hn]; exact q
  refine g_ws (ws' := mw (g_E Γ) m r o (gu A 1 (A 1))) rfl ?_
  refine g_sub (L' := [(0, .ref m), (1, .int x1)]) [0, 1] rfl ?_
  exact wX12_newOne K hlt hRm hret (A 1) x1 h

set_option maxHeartbeats 4000000 in
set_option maxRecDepth 100000 in
theorem wX12_yearGoes_234 {Γ : gT} {m : Nat} {r : Nat → Nat} {o : Nat → Int32} {A : Nat → Nat → Int32} (K : gOK Γ cX12_yearGoes gU RX12) (hlt : ∀ i, i < 7 → i < g_n Γ) (hRm : g_R Γ = ({ frames := 9, cells := 0, slots := 0, locals := 265 } : Room)) {res : Int32 × ((Nat → Int32)) × ((Nat → Int32)) × ((Nat → Int32)) × ((Nat → Int32)) × ((Nat → Int32)) × ((Nat → Int32)) × ((Nat → Int32))} (hret : ∀ (pc : Nat) (L : List (Nat × Value)) (v : Int32) (w : va_W), decode cX12_yearGoes pc = .ok (.ireturn, 1) → narrow .int (.int v) = .int v → (v = res.1 ∧ w = mw (g_E Γ) m r o (gu (gu (gu (gu (gu (gu (gu A 1 res.2.1) 10 res.2.2.1) 11 res.2.2.2.1) 12 res.2.2.2.2.1) 13 res.2.2.2.2.2.1) 14 res.2.2.2.2.2.2.1) 15 res.2.2.2.2.2.2.2)) → gGO Γ 0 0 pc L [.int v] w) {k132 : (Nat → Int32) → (Nat → Int32) → (Nat → Int32) → (Nat → Int32) → (Nat → Int32) → (Nat → Int32) → (Nat → Int32) → Int32 → Int32 → Int32 → Int32 → Option (Int32 × ((Nat → Int32)) × ((Nat → Int32)) × ((Nat → Int32)) × ((Nat → Int32)) × ((Nat → Int32)) × ((Nat → Int32)) × ((Nat → Int32)))} (hk132 : ∀ (a1 : (Nat → Int32)) (a10 : (Nat → Int32)) (a11 : (Nat → Int32)) (a12 : (Nat → Int32)) (a13 : (Nat → Int32)) (a14 : (Nat → Int32)) (a15 : (Nat → Int32)) (x1 : Int32) (x2 : Int32) (x3 : Int32) (x4 : Int32), k132 a1 a10 a11 a12 a13 a14 a15 x1 x2 x3 x4 = some res → gGO Γ 0 0 132 [(0, .ref m), (1, .int x1), (2, .int x2), (3, .int x3), (4, .int x4)] [] (mw (g_E Γ) m r o (gu (gu (gu (gu (gu (gu (gu A 1 a1) 10 a10) 11 a11) 12 a12) 13 a13) 14 a14) 15 a15))) (a1 : (Nat → Int32)) (a10 : (Nat → Int32)) (a11 : (Nat → Int32)) (a12 : (Nat → Int32)) (a13 : (Nat → Int32)) (a14 : (Nat → Int32)) (a15 : (Nat → Int32)) (x1 : Int32) (x2 : Int32) (x3 : Int32) (x4 : Int32) (y0 : Int32) (h : pX12_yearGoes_234 k132 a1 a10 a11 a12 a13 a14 a15 x1 x2 x3 x4 y0 = some res) : gGO Γ 0 0 234 [(0, .ref m), (1, .int x1), (2, .int x2), (3, .int x3), (4, .int x4)] [.int y0] (mw (g_E Γ) m r o (gu (gu (gu (gu (gu (gu (gu A 1 a1) 10 a10) 11 a11) 12 a12) 13 a13) 14 a14) 15 a15)) := by
    unfold pX12_yearGoes_234 at h
    refine g_istore (L' := [(5, .int y0), (0, .ref m), (1, .int x1), (2, .int x2), (3, .int x3), (4, .int x4)]) K dX12_yearGoes_234 (hlt _ (by decide)) rfl ?_
    refine g_iload K dX12_yearGoes_236 0 rfl ?_
    obtain ⟨ht9, hf9⟩ := gi_br h; clear h
    refine g_if_eq (tgt := 247) K dX12_yearGoes_238 (by decide) (fun qh => ?_) (fun qh => ?_)
    · have h := ht9 qh; clear ht9 hf9
      refine g_iinc (v := (x4 + 1)) (L' := [(4, .int (x4 + 1)), (5, .int y0), (0, .ref m), (1, .int x1), (2, .int x2), (3, .int x3)]) K dX12_yearGoes_247 5 rfl rfl (hlt _ (by decide)) rfl ?_
      refine g_goto (tgt := 132) K dX12_yearGoes_250 (by decide) ?_
      refine g_sub (L' := [(0, .ref m), (1, .int x1), (2, .int x2), (3, .int x3), (4, .int (x4 + 1))]) [2, 3, 4, 5, 0] rfl ?_
      exact hk132 a1 a10 a11 a12 a13 a14 a15 x1 x2 x3 (x4 + 1) h
    · have h := hf9 qh; clear ht9 hf9
      refine g_aload_n K dX12_yearGoes_241 rfl 1 rfl ?_
      refine g_iload K dX12_yearGoes_242 5 rfl ?_
      obtain ⟨z_1, hz_1, h⟩ := gi_bd h
      refine g_callVv (As := [.int x4]) (bytes := cX12_newOne) (maxL := 2) (ret := none) K (ctX12_newOne o (gu (gu (gu (gu (gu (gu (gu A 1 a1) 10 a10) 11 a11) 12 a12) 13 a13) 14 a14) 15 a15) x4 (res := z_1) hz_1) gc_V_RX12_206_X12_newOne rfl qv_X12_newOne 0 rfl rfl rfl hRm rfl rfl rfl (by decide) (Nat.le_of_ble_eq_true rfl) (by decide) dX12_yearGoes_244 (fun w hw => ?_)
      subst hw
      refine g_ws (ws' := mw (g_E Γ) m r o (gu (gu (gu (gu (gu (gu (gu A 1 z_1) 10 a10) 11 a11) 12 a12) 13 a13) 14 a14) 15 a15)) rfl ?_
      refine g_iinc (v := (x4 + 1)) (L' := [(4, .int (x4 + 1)), (5, .int y0), (0, .ref m), (1, .int x1), (2, .int x2), (3, .int x3)]) K dX12_yearGoes_247 5 rfl rfl (hlt _ (by decide)) rfl ?_
      refine g_goto (tgt := 132) K dX12_yearGoes_250 (by decide) ?_
      refine g_sub (L' := [(0, .ref m), (1, .int x1), (2, .int x2), (3, .int x3), (4, .int (x4 + 1))]) [2, 3, 4, 5, 0] rfl ?_
      exact hk132 z_1 a10 a11 a12 a13 a14 a15 x1 x2 x3 (x4 + 1) h

set_option maxHeartbeats 4000000 in
set_option maxRecDepth 100000 in
theorem wX12_yearGoes_178 {Γ : gT} {m : Nat} {r : Nat → Nat} {o : Nat → Int32} {A : Nat → Nat → Int32} (K : gOK Γ cX12_yearGoes gU RX12) (hlt : ∀ i, i < 7 → i < g_n Γ) (hRm : g_R Γ = ({ frames := 9, cells := 0, slots := 0, locals := 265 } : Room)) {res : Int32 × ((Nat → Int32)) × ((Nat → Int32)) × ((Nat → Int32)) × ((Nat → Int32)) × ((Nat → Int32)) × ((Nat → Int32)) × ((Nat → Int32))} (hret : ∀ (pc : Nat) (L : List (Nat × Value)) (v : Int32) (w : va_W), decode cX12_yearGoes pc = .ok (.ireturn, 1) → narrow .int (.int v) = .int v → (v = res.1 ∧ w = mw (g_E Γ) m r o (gu (gu (gu (gu (gu (gu (gu A 1 res.2.1) 10 res.2.2.1) 11 res.2.2.2.1) 12 res.2.2.2.2.1) 13 res.2.2.2.2.2.1) 14 res.2.2.2.2.2.2.1) 15 res.2.2.2.2.2.2.2)) → gGO Γ 0 0 pc L [.int v] w) {k132 : (Nat → Int32) → (Nat → Int32) → (Nat → Int32) → (Nat → Int32) → (Nat → Int32) → (Nat → Int32) → (Nat → Int32) → Int32 → Int32 → Int32 → Int32 → Option (Int32 × ((Nat → Int32)) × ((Nat → Int32)) × ((Nat → Int32)) × ((Nat → Int32)) × ((Nat → Int32)) × ((Nat → Int32)) × ((Nat → Int32)))} (hk132 : ∀ (a1 : (Nat → Int32)) (a10 : (Nat → Int32)) (a11 : (Nat → Int32)) (a12 : (Nat → Int32)) (a13 : (Nat → Int32)) (a14 : (Nat → Int32)) (a15 : (Nat → Int32)) (x1 : Int32) (x2 : Int32) (x3 : Int32) (x4 : Int32), k132 a1 a10 a11 a12 a13 a14 a15 x1 x2 x3 x4 = some res → gGO Γ 0 0 132 [(0, .ref m), (1, .int x1), (2, .int x2), (3, .int x3), (4, .int x4)] [] (mw (g_E Γ) m r o (gu (gu (gu (gu (gu (gu (gu A 1 a1) 10 a10) 11 a11) 12 a12) 13 a13) 14 a14) 15 a15))) (a1 : (Nat → Int32)) (a10 : (Nat → Int32)) (a11 : (Nat → Int32)) (a12 : (Nat → Int32)) (a13 : (Nat → Int32)) (a14 : (Nat → Int32)) (a15 : (Nat → Int32)) (x1 : Int32) (x2 : Int32) (x3 : Int32) (x4 : Int32) (y0 : Int32) (h : pX12_yearGoes_178 k132 a1 a10 a11 a12 a13 a14 a15 x1 x2 x3 x4 y0 = some res) : gGO Γ 0 0 178 [(0, .ref m), (1, .int x1), (2, .int x2), (3, .int x3), (4, .int x4)] [.int y0] (mw (g_E Γ) m r o (gu (gu (gu (gu (gu (gu (gu A 1 a1) 10 a10) 11 a11) 12 a12) 13 a13) 14 a14) 15 a15)) := by
    unfold pX12_yearGoes_178 at h
    refine g_istore (L' := [(5, .int y0), (0, .ref m), (1, .int x1), (2, .int x2), (3, .int x3), (4, .int x4)]) K dX12_yearGoes_178 (hlt _ (by decide)) rfl ?_
    refine g_iload K dX12_yearGoes_180 5 rfl ?_
    refine g_bipush (v := 7) K dX12_yearGoes_182 (by decide) ?_
    refine g_aload_n K dX12_yearGoes_184 rfl 1 rfl ?_
    refine mg_1 K hin_X12 (u_980) dX12_yearGoes_185 ?_
    refine g_iconst (v := 0) K dX12_yearGoes_188 (by decide) ?_
    obtain ⟨b_1, h⟩ := gi_none h
    refine g_iald (f := a1) K 1 rfl (ginb_in b_1) dX12_yearGoes_189 ?_
    refine g_imul K dX12_yearGoes_190 ?_
    refine g_iload_n K dX12_yearGoes_191 rfl 3 rfl ?_
    obtain ⟨c_2, h⟩ := gi_none h
    refine g_irem K dX12_yearGoes_192 c_2 ?_
    refine g_isub K dX12_yearGoes_193 ?_
    refine g_iload_n K dX12_yearGoes_194 rfl 3 rfl ?_
    refine g_iadd K dX12_yearGoes_195 ?_
    refine g_iload_n K dX12_yearGoes_196 rfl 3 rfl ?_
    obtain ⟨c_3, h⟩ := gi_none h
    refine g_irem K dX12_yearGoes_197 c_3 ?_
    obtain ⟨v_4, ev_4, h⟩ := gi_nm h
    refine g_topi ev_4 ?_
    refine g_istore (L' := [(6, .int v_4), (5, .int y0), (0, .ref m), (1, .int x1), (2, .int x2), (3, .int x3), (4, .int x4)]) K dX12_yearGoes_198 (hlt _ (by decide)) rfl ?_
    refine g_iload_n K dX12_yearGoes_200 rfl 3 rfl ?_
    refine g_iconst (v := 2) K dX12_yearGoes_201 (by decide) ?_
    obtain ⟨ht9, hf9⟩ := gi_br h; clear h
    refine g_icmp_ne (tgt := 219) K dX12_yearGoes_202 (by decide) (fun qh => ?_) (fun qh => ?_)
    · have h := hf9 qh; clear ht9 hf9
      refine g_iload K dX12_yearGoes_219 1 rfl ?_
      obtain ⟨ht9, hf9⟩ := gi_br h; clear h
      refine g_if_eq (tgt := 233) K dX12_yearGoes_221 (by decide) (fun qh => ?_) (fun qh => ?_)
      · have h := ht9 qh; clear ht9 hf9
        refine g_iconst (v := 0) K dX12_yearGoes_233 (by decide) ?_
        refine g_sub (L' := [(0, .ref m), (1, .int x1), (2, .int x2), (3, .int x3), (4, .int x4)]) [2, 3, 4, 5, 6] rfl ?_
        exact wX12_yearGoes_234 K hlt hRm hret hk132 a1 a10 a11 a12 a13 a14 a15 x1 x2 x3 x4 0 h
      · have h := hf9 qh; clear ht9 hf9
        refine g_iload_n K dX12_yearGoes_224 rfl 3 rfl ?_
        refine g_iconst (v := 1) K dX12_yearGoes_225 (by decide) ?_
        obtain ⟨ht9, hf9⟩ := gi_br h; clear h
        refine g_icmp_eq (tgt := 233) K dX12_yearGoes_226 (by decide) (fun qh => ?_) (fun qh => ?_)
        · have h := ht9 qh; clear ht9 hf9
          refine g_iconst (v := 0) K dX12_yearGoes_233 (by decide) ?_
          refine g_sub (L' := [(0, .ref m), (1, .int x1), (2, .int x2), (3, .int x3), (4, .int x4)]) [2, 3, 4, 5, 6] rfl ?_
          exact wX12_yearGoes_234 K hlt hRm hret hk132 a1 a10 a11 a12 a13 a14 a15 x1 x2 x3 x4 0 h
        · have h := hf9 qh; clear ht9 hf9
          refine g_iconst (v := 1) K dX12_yearGoes_229 (by decide) ?_
          refine g_goto (tgt := 234) K dX12_yearGoes_230 (by decide) ?_
          refine g_sub (L' := [(0, .ref m), (1, .int x1), (2, .int x2), (3, .int x3), (4, .int x4)]) [2, 3, 4, 5, 6] rfl ?_
          exact wX12_yearGoes_234 K hlt hRm hret hk132 a1 a10 a11 a12 a13 a14 a15 x1 x2 x3 x4 1 h
    · have h := ht9 qh; clear ht9 hf9
      refine g_iload K dX12_yearGoes_205 0 rfl ?_
      refine g_iload_n K dX12_yearGoes_207 rfl 5 rfl ?_
      obtain ⟨ht9, hf9⟩ := gi_br h; clear h
      refine g_icmp_ge (tgt := 215) K dX12_yearGoes_208 (by decide) (fun qh => ?_) (fun qh => ?_)
      · have h := ht9 qh; clear ht9 hf9
        refine g_iconst (v := 0) K dX12_yearGoes_215 (by decide) ?_
        refine g_goto (tgt := 234) K dX12_yearGoes_216 (by decide) ?_
        refine g_sub (L' := [(0, .ref m), (1, .int x1), (2, .int x2), (3, .int x3), (4, .int x4)]) [2, 3, 4, 5, 6] rfl ?_
        exact wX12_yearGoes_234 K hlt hRm hret hk132 a1 a10 a11 a12 a13 a14 a15 x1 x2 x3 x4 0 h
      · have h := hf9 qh; clear ht9 hf9
        refine g_iconst (v := 1) K dX12_yearGoes_211 (by decide) ?_
        refine g_goto (tgt := 234) K dX12_yearGoes_212 (by decide) ?_
        refine g_sub (L' := [(0, .ref m), (1, .int x1), (2, .int x2), (3, .int x3), (4, .int x4)]) [2, 3, 4, 5, 6] rfl ?_
        exact wX12_yearGoes_234 K hlt hRm hret hk132 a1 a10 a11 a12 a13 a14 a15 x1 x2 x3 x4 1 h

set_option maxHeartbeats 4000000 in
set_option maxRecDepth 100000 in
theorem wX12_yearGoes_132 {Γ : gT} {m : Nat} {r : Nat → Nat} {o : Nat → Int32} {A : Nat → Nat → Int32} (K : gOK Γ cX12_yearGoes gU RX12) (hlt : ∀ i, i < 7 → i < g_n Γ) (hRm : g_R Γ = ({ frames := 9, cells := 0, slots := 0, locals := 265 } : Room)) {res : Int32 × ((Nat → Int32)) × ((Nat → Int32)) × ((Nat → Int32)) × ((Nat → Int32)) × ((Nat → Int32)) × ((Nat → Int32)) × ((Nat → Int32))} (hret : ∀ (pc : Nat) (L : List (Nat × Value)) (v : Int32) (w : va_W), decode cX12_yearGoes pc = .ok (.ireturn, 1) → narrow .int (.int v) = .int v → (v = res.1 ∧ w = mw (g_E Γ) m r o (gu (gu (gu (gu (gu (gu (gu A 1 res.2.1) 10 res.2.2.1) 11 res.2.2.2.1) 12 res.2.2.2.2.1) 13 res.2.2.2.2.2.1) 14 res.2.2.2.2.2.2.1) 15 res.2.2.2.2.2.2.2)) → gGO Γ 0 0 pc L [.int v] w) : ∀ (n : Nat) (a1 : (Nat → Int32)) (a10 : (Nat → Int32)) (a11 : (Nat → Int32)) (a12 : (Nat → Int32)) (a13 : (Nat → Int32)) (a14 : (Nat → Int32)) (a15 : (Nat → Int32)) (x1 : Int32) (x2 : Int32) (x3 : Int32) (x4 : Int32), pX12_yearGoes_132 n a1 a10 a11 a12 a13 a14 a15 x1 x2 x3 x4 = some res → gGO Γ 0 0 132 [(0, .ref m), (1, .int x1), (2, .int x2), (3, .int x3), (4, .int x4)] [] (mw (g_E Γ) m r o (gu (gu (gu (gu (gu (gu (gu A 1 a1) 10 a10) 11 a11) 12 a12) 13 a13) 14 a14) 15 a15)) := by
  intro n
  induction n with
  | zero => intro _ _ _ _ _ _ _ _ _ _ _ h; cases h
  | succ n ih =>
    intro a1 a10 a11 a12 a13 a14 a15 x1 x2 x3 x4 h
    simp only [pX12_yearGoes_132] at h
    refine g_iload K dX12_yearGoes_132 4 rfl ?_
    refine g_iload_n K dX12_yearGoes_134 rfl 2 rfl ?_
    obtain ⟨ht9, hf9⟩ := gi_br h; clear h
    refine g_icmp_ge (tgt := 253) K dX12_yearGoes_135 (by decide) (fun qh => ?_) (fun qh => ?_)
    · have h := ht9 qh; clear ht9 hf9
      refine g_aload_n K dX12_yearGoes_253 rfl 0 rfl ?_
      refine mg_1 K hin_X12 (u_980) dX12_yearGoes_254 ?_
      refine g_iconst (v := 0) K dX12_yearGoes_257 (by decide) ?_
      refine g_dup2 K dX12_yearGoes_258 rfl rfl ?_
      obtain ⟨b_1, h⟩ := gi_none h
      refine g_iald (f := a1) K 1 rfl (ginb_in b_1) dX12_yearGoes_259 ?_
      refine g_iconst (v := 1) K dX12_yearGoes_260 (by decide) ?_
      refine g_iadd K dX12_yearGoes_261 ?_
      obtain ⟨b_2, h⟩ := gi_none h
      obtain ⟨f_3, ef_3, h⟩ := gi_nm h
      refine g_iast (f := a1) (ws' := mw (g_E Γ) m r o (gu (gu (gu (gu (gu (gu (gu A 1 f_3) 10 a10) 11 a11) 12 a12) 13 a13) 14 a14) 15 a15)) K 1 rfl (ginb_in b_2) dX12_yearGoes_262 (by rw [ef_3]; rfl) ?_
      refine g_iload_n K dX12_yearGoes_263 rfl 3 rfl ?_
      obtain rfl := Option.some.inj h
      exact hret _ _ _ _ dX12_yearGoes_264 rfl ⟨rfl, rfl⟩
    · have h := hf9 qh; clear ht9 hf9
      refine g_iload_n K dX12_yearGoes_138 rfl 1 rfl ?_
      refine g_iconst (v := 3) K dX12_yearGoes_139 (by decide) ?_
      obtain ⟨ht9, hf9⟩ := gi_br h; clear h
      refine g_icmp_ne (tgt := 162) K dX12_yearGoes_140 (by decide) (fun qh => ?_) (fun qh => ?_)
      · have h := hf9 qh; clear ht9 hf9
        refine g_aload_n K dX12_yearGoes_162 rfl 0 rfl ?_
        refine mg_13 K hin_X12 (u_992) dX12_yearGoes_163 ?_
        refine g_iload K dX12_yearGoes_166 4 rfl ?_
        obtain ⟨b_4, h⟩ := gi_none h
        refine g_iald (f := a13) K 7 rfl (ginb_in b_4) dX12_yearGoes_168 ?_
        refine g_iconst (v := 1) K dX12_yearGoes_169 (by decide) ?_
        obtain ⟨ht9, hf9⟩ := gi_br h; clear h
        refine g_icmp_ne (tgt := 177) K dX12_yearGoes_170 (by decide) (fun qh => ?_) (fun qh => ?_)
        · have h := hf9 qh; clear ht9 hf9
          refine g_iconst (v := 0) K dX12_yearGoes_177 (by decide) ?_
          exact wX12_yearGoes_178 K hlt hRm hret ih a1 a10 a11 a12 a13 a14 a15 x1 x2 x3 x4 0 h
        · have h := ht9 qh; clear ht9 hf9
          refine g_iconst (v := 1) K dX12_yearGoes_173 (by decide) ?_
          refine g_goto (tgt := 178) K dX12_yearGoes_174 (by decide) ?_
          exact wX12_yearGoes_178 K hlt hRm hret ih a1 a10 a11 a12 a13 a14 a15 x1 x2 x3 x4 1 h
      · have h := ht9 qh; clear ht9 hf9
        refine g_aload_n K dX12_yearGoes_143 rfl 0 rfl ?_
        refine mg_14 K hin_X12 (u_993) dX12_yearGoes_144 ?_
        refine g_iload K dX12_yearGoes_147 4 rfl ?_
        obtain ⟨b_5, h⟩ := gi_none h
        refine g_iald (f := a14) K 8 rfl (ginb_in b_5) dX12_yearGoes_149 ?_
        refine g_iconst (v := 1) K dX12_yearGoes_150 (by decide) ?_
        obtain ⟨ht9, hf9⟩ := gi_br h; clear h
        refine g_icmp_ne (tgt := 158) K dX12_yearGoes_151 (by decide) (fun qh => ?_) (fun qh => ?_)
        · have h := hf9 qh; clear ht9 hf9
          refine g_iconst (v := 0) K dX12_yearGoes_158 (by decide) ?_
          refine g_goto (tgt := 178) K dX12_yearGoes_159 (by decide) ?_
          exact wX12_yearGoes_178 K hlt hRm hret ih a1 a10 a11 a12 a13 a14 a15 x1 x2 x3 x4 0 h
        · have h := ht9 qh; clear ht9 hf9
          refine g_iconst (v := 1) K dX12_yearGoes_154 (by decide) ?_
          refine g_goto (tgt := 178) K dX12_yearGoes_155 (by decide) ?_
          exact wX12_yearGoes_178 K hlt hRm hret ih a1 a10 a11 a12 a13 a14 a15 x1 x2 x3 x4 1 h

set_option maxHeartbeats 4000000 in
set_option maxRecDepth 100000 in
theorem wX12_yearGoes_97 {Γ : gT} {m : Nat} {r : Nat → Nat} {o : Nat → Int32} {A : Nat → Nat → Int32} (K : gOK Γ cX12_yearGoes gU RX12) (hlt : ∀ i, i < 7 → i < g_n Γ) (hRm : g_R Γ = ({ frames := 9, cells := 0, slots := 0, locals := 265 } : Room)) {res : Int32 × ((Nat → Int32)) × ((Nat → Int32)) × ((Nat → Int32)) × ((Nat → Int32)) × ((Nat → Int32)) × ((Nat → Int32)) × ((Nat → Int32))} (hret : ∀ (pc : Nat) (L : List (Nat × Value)) (v : Int32) (w : va_W), decode cX12_yearGoes pc = .ok (.ireturn, 1) → narrow .int (.int v) = .int v → (v = res.1 ∧ w = mw (g_E Γ) m r o (gu (gu (gu (gu (gu (gu (gu A 1 res.2.1) 10 res.2.2.1) 11 res.2.2.2.1) 12 res.2.2.2.2.1) 13 res.2.2.2.2.2.1) 14 res.2.2.2.2.2.2.1) 15 res.2.2.2.2.2.2.2)) → gGO Γ 0 0 pc L [.int v] w) {k21 : (Nat → Int32) → (Nat → Int32) → (Nat → Int32) → (Nat → Int32) → (Nat → Int32) → (Nat → Int32) → (Nat → Int32) → Int32 → Int32 → Int32 → Int32 → Option (Int32 × ((Nat → Int32)) × ((Nat → Int32)) × ((Nat → Int32)) × ((Nat → Int32)) × ((Nat → Int32)) × ((Nat → Int32)) × ((Nat → Int32)))} (hk21 : ∀ (a1 : (Nat → Int32)) (a10 : (Nat → Int32)) (a11 : (Nat → Int32)) (a12 : (Nat → Int32)) (a13 : (Nat → Int32)) (a14 : (Nat → Int32)) (a15 : (Nat → Int32)) (x1 : Int32) (x2 : Int32) (x3 : Int32) (x4 : Int32), k21 a1 a10 a11 a12 a13 a14 a15 x1 x2 x3 x4 = some res → gGO Γ 0 0 21 [(0, .ref m), (1, .int x1), (2, .int x2), (3, .int x3), (4, .int x4)] [] (mw (g_E Γ) m r o (gu (gu (gu (gu (gu (gu (gu A 1 a1) 10 a10) 11 a11) 12 a12) 13 a13) 14 a14) 15 a15))) (a1 : (Nat → Int32)) (a10 : (Nat → Int32)) (a11 : (Nat → Int32)) (a12 : (Nat → Int32)) (a13 : (Nat → Int32)) (a14 : (Nat → Int32)) (a15 : (Nat → Int32)) (x1 : Int32) (x2 : Int32) (x3 : Int32) (x4 : Int32) (x5 : Int32) (y1 : Int32) (y2 : Int32) (h : pX12_yearGoes_97 k21 a1 a10 a11 a12 a13 a14 a15 x1 x2 x3 x4 x5 y1 y2 = some res) : gGO Γ 0 0 97 [(0, .ref m), (1, .int x1), (2, .int x2), (3, .int x3), (4, .int x4), (5, .int x5)] [.int y2, .int y1, .ref (r 1)] (mw (g_E Γ) m r o (gu (gu (gu (gu (gu (gu (gu A 1 a1) 10 a10) 11 a11) 12 a12) 13 a13) 14 a14) 15 a15)) := by
    unfold pX12_yearGoes_97 at h
    obtain ⟨b_1, h⟩ := gi_none h
    obtain ⟨f_2, ef_2, h⟩ := gi_nm h
    refine g_iast (f := a1) (ws' := mw (g_E Γ) m r o (gu (gu (gu (gu (gu (gu (gu A 1 f_2) 10 a10) 11 a11) 12 a12) 13 a13) 14 a14) 15 a15)) K 1 rfl (ginb_in b_1) dX12_yearGoes_97 (by rw [ef_2]; rfl) ?_
    refine g_iload_n K dX12_yearGoes_98 rfl 3 rfl ?_
    refine g_iload K dX12_yearGoes_99 5 rfl ?_
    refine g_iconst (v := 1) K dX12_yearGoes_101 (by decide) ?_
    obtain ⟨ht9, hf9⟩ := gi_br h; clear h
    refine g_icmp_ne (tgt := 109) K dX12_yearGoes_102 (by decide) (fun qh => ?_) (fun qh => ?_)
    · have h := hf9 qh; clear ht9 hf9
      refine g_iconst (v := 0) K dX12_yearGoes_109 (by decide) ?_
      refine g_iadd K dX12_yearGoes_110 ?_
      obtain ⟨v_3, ev_3, h⟩ := gi_nm h
      refine g_topi ev_3 ?_
      refine g_istore_n (L' := [(3, .int v_3), (0, .ref m), (1, .int x1), (2, .int x2), (4, .int x4), (5, .int x5)]) K dX12_yearGoes_111 rfl (hlt _ (by decide)) rfl ?_
      refine g_iinc (v := (x4 + 1)) (L' := [(4, .int (x4 + 1)), (3, .int v_3), (0, .ref m), (1, .int x1), (2, .int x2), (5, .int x5)]) K dX12_yearGoes_112 4 rfl rfl (hlt _ (by decide)) rfl ?_
      refine g_goto (tgt := 21) K dX12_yearGoes_115 (by decide) ?_
      refine g_sub (L' := [(0, .ref m), (1, .int x1), (2, .int x2), (3, .int v_3), (4, .int (x4 + 1))]) [2, 3, 4, 1, 0] rfl ?_
      exact hk21 f_2 a10 a11 a12 a13 a14 a15 x1 x2 v_3 (x4 + 1) h
    · have h := ht9 qh; clear ht9 hf9
      refine g_iconst (v := 1) K dX12_yearGoes_105 (by decide) ?_
      refine g_goto (tgt := 110) K dX12_yearGoes_106 (by decide) ?_
      refine g_iadd K dX12_yearGoes_110 ?_
      obtain ⟨v_4, ev_4, h⟩ := gi_nm h
      refine g_topi ev_4 ?_
      refine g_istore_n (L' := [(3, .int v_4), (0, .ref m), (1, .int x1), (2, .int x2), (4, .int x4), (5, .int x5)]) K dX12_yearGoes_111 rfl (hlt _ (by decide)) rfl ?_
      refine g_iinc (v := (x4 + 1)) (L' := [(4, .int (x4 + 1)), (3, .int v_4), (0, .ref m), (1, .int x1), (2, .int x2), (5, .int x5)]) K dX12_yearGoes_112 4 rfl rfl (hlt _ (by decide)) rfl ?_
      refine g_goto (tgt := 21) K dX12_yearGoes_115 (by decide) ?_
      refine g_sub (L' := [(0, .ref m), (1, .int x1), (2, .int x2), (3, .int v_4), (4, .int (x4 + 1))]) [2, 3, 4, 1, 0] rfl ?_
      exact hk21 f_2 a10 a11 a12 a13 a14 a15 x1 x2 v_4 (x4 + 1) h

