set_option maxHeartbeats 4000000 in
set_option maxRecDepth 100000 in
theorem wX12_here {Γ : gT} {m : Nat} {r : Nat → Nat} {o : Nat → Int32} {A : Nat → Nat → Int32} (K : gOK Γ cX12_here gU RX12) (hlt : ∀ i, i < 1 → i < g_n Γ) (hRm : g_R Γ = ({ frames := 4, cells := 0, slots := 0, locals := 150 } : Room)) {res : Int32} (hret : ∀ (pc : Nat) (L : List (Nat × Value)) (v : Int32) (w : va_W), decode cX12_here pc = .ok (.ireturn, 1) → narrow .int (.int v) = .int v → (v = res ∧ w = mw (g_E Γ) m r o A) → gGO Γ 0 0 pc L [.int v] w) (h : pX12_here (A 1) (o 6) (o 7) = some res) : gGO Γ 0 0 0 [(0, .ref m)] [] (mw (g_E Γ) m r o A) := by
    unfold pX12_here at h
    refine g_aload_n K dX12_here_0 rfl 0 rfl ?_
    refine mg_6 (v := (o 6)) K hin_X12 (u_985) rfl dX12_here_1 ?_
    refine g_aload_n K dX12_here_4 rfl 0 rfl ?_
    refine mg_7 (v := (o 7)) K hin_X12 (u_986) rfl dX12_here_5 ?_
    obtain ⟨ht9, hf9⟩ := gi_br h; clear h
    refine g_icmp_ge (tgt := 27) K dX12_here_8 (by decide) (fun qh => ?_) (fun qh => ?_)
    · have h := ht9 qh; clear ht9 hf9
      refine g_iconst (v := (-1)) K dX12_here_27 (by decide) ?_
      obtain rfl := Option.some.inj h
      exact hret _ _ _ _ dX12_here_28 rfl ⟨rfl, rfl⟩
    · have h := hf9 qh; clear ht9 hf9
      refine g_aload_n K dX12_here_11 rfl 0 rfl ?_
      refine mg_1 K hin_X12 (u_980) dX12_here_12 ?_
      refine g_sipush (v := 132) K dX12_here_15 (by decide) ?_
      refine g_aload_n K dX12_here_18 rfl 0 rfl ?_
      refine mg_6 (v := (o 6)) K hin_X12 (u_985) rfl dX12_here_19 ?_
      refine g_iadd K dX12_here_22 ?_
      obtain ⟨b_1, h⟩ := gi_none h
      refine g_iald (f := (A 1)) K 1 rfl (ginb_in b_1) dX12_here_23 ?_
      refine g_goto (tgt := 28) K dX12_here_24 (by decide) ?_
      obtain rfl := Option.some.inj h
      exact hret _ _ _ _ dX12_here_28 rfl ⟨rfl, rfl⟩

set_option maxRecDepth 100000 in
theorem ctX12_here {E : gE} {m : Nat} {r : Nat → Nat} (o : Nat → Int32) (A : Nat → Nat → Int32) {res : Int32} (h : pX12_here (A 1) (o 6) (o 7) = some res) : gMi yX12_here (.code yX12_here cX12_here 1 (some .int) :: gU) ({ frames := 4, cells := 0, slots := 0, locals := 150 } : Room) 0 0 E [.ref m] (mw E m r o A) (fun v w => v = res ∧ w = mw E m r o A) := by
  refine g_met_i (by decide +kernel) (Nat.le_of_ble_eq_true rfl) (fun Γ K hn hE hRm _ hret => ?_)
  subst hE
  have hlt : ∀ i, i < 1 → i < g_n Γ := fun i q => by rw [hn]; exact q
  refine g_sub (L' := [(0, .ref m)]) [0] rfl ?_
  exact wX12_here K hlt hRm hret h

set_option maxHeartbeats 4000000 in
set_option maxRecDepth 100000 in
theorem wX12_must_21 {Γ : gT} {m : Nat} {r : Nat → Nat} {o : Nat → Int32} {A : Nat → Nat → Int32} (K : gOK Γ cX12_must gU RX12) (hlt : ∀ i, i < 2 → i < g_n Γ) (hRm : g_R Γ = ({ frames := 5, cells := 0, slots := 0, locals := 170 } : Room)) {res : Int32 × Int32} (hret : ∀ (pc : Nat) (L : List (Nat × Value)) (w : va_W), decode cX12_must pc = .ok (.return_, 1) → (w = mw (g_E Γ) m r (gu (gu o 6 res.1) 8 res.2) A) → gGO Γ 0 0 pc L [] w) (o6 : Int32) (o8 : Int32) (y1 : Int32) (h : pX12_must_21 (A 1) (o 7) o6 o8 y1 = some res) : gGO Γ 0 0 21 [(0, .ref m)] [.int y1, .ref m] (mw (g_E Γ) m r (gu (gu o 6 o6) 8 o8) A) := by
    unfold pX12_must_21 at h
    obtain ⟨c_1, h⟩ := gi_none h
    refine mp_8 (w' := mw (g_E Γ) m r (gu (gu o 6 o6) 8 y1) A) K hin_X12 (u_987) (gbool_nar c_1) (gbool_fit c_1) dX12_must_21 rfl ?_
    refine g_aload_n K dX12_must_24 rfl 0 rfl ?_
    refine g_dup K dX12_must_25 rfl ?_
    refine mg_6 (v := o6) K hin_X12 (u_985) rfl dX12_must_26 ?_
    refine g_aload_n K dX12_must_29 rfl 0 rfl ?_
    refine mg_8 (v := y1) K hin_X12 (u_987) rfl dX12_must_30 ?_
    obtain ⟨ht9, hf9⟩ := gi_br h; clear h
    refine g_if_eq (tgt := 40) K dX12_must_33 (by decide) (fun qh => ?_) (fun qh => ?_)
    · have h := ht9 qh; clear ht9 hf9
      refine g_iconst (v := 1) K dX12_must_40 (by decide) ?_
      refine g_iadd K dX12_must_41 ?_
      refine mp_6 (w' := mw (g_E Γ) m r (gu (gu o 6 (o6 + 1)) 8 y1) A) K hin_X12 (u_985) rfl rfl dX12_must_42 rfl ?_
      obtain rfl := Option.some.inj h
      exact hret _ _ _ dX12_must_45 rfl
    · have h := hf9 qh; clear ht9 hf9
      refine g_iconst (v := 0) K dX12_must_36 (by decide) ?_
      refine g_goto (tgt := 41) K dX12_must_37 (by decide) ?_
      refine g_iadd K dX12_must_41 ?_
      refine mp_6 (w' := mw (g_E Γ) m r (gu (gu o 6 (o6 + 0)) 8 y1) A) K hin_X12 (u_985) rfl rfl dX12_must_42 rfl ?_
      obtain rfl := Option.some.inj h
      exact hret _ _ _ dX12_must_45 rfl

set_option maxHeartbeats 4000000 in
set_option maxRecDepth 100000 in
theorem wX12_must {Γ : gT} {m : Nat} {r : Nat → Nat} {o : Nat → Int32} {A : Nat → Nat → Int32} (K : gOK Γ cX12_must gU RX12) (hlt : ∀ i, i < 2 → i < g_n Γ) (hRm : g_R Γ = ({ frames := 5, cells := 0, slots := 0, locals := 170 } : Room)) {res : Int32 × Int32} (hret : ∀ (pc : Nat) (L : List (Nat × Value)) (w : va_W), decode cX12_must pc = .ok (.return_, 1) → (w = mw (g_E Γ) m r (gu (gu o 6 res.1) 8 res.2) A) → gGO Γ 0 0 pc L [] w) (o6 : Int32) (o8 : Int32) (x1 : Int32) (h : pX12_must (A 1) (o 7) o6 o8 x1 = some res) : gGO Γ 0 0 0 [(0, .ref m), (1, .int x1)] [] (mw (g_E Γ) m r (gu (gu o 6 o6) 8 o8) A) := by
    unfold pX12_must at h
    refine g_aload_n K dX12_must_0 rfl 0 rfl ?_
    refine g_aload_n K dX12_must_1 rfl 0 rfl ?_
    refine mg_8 (v := o8) K hin_X12 (u_987) rfl dX12_must_2 ?_
    obtain ⟨ht9, hf9⟩ := gi_br h; clear h
    refine g_if_ne (tgt := 16) K dX12_must_5 (by decide) (fun qh => ?_) (fun qh => ?_)
    · have h := hf9 qh; clear ht9 hf9
      refine g_iconst (v := 1) K dX12_must_16 (by decide) ?_
      refine g_goto (tgt := 21) K dX12_must_17 (by decide) ?_
      refine g_sub (L' := [(0, .ref m)]) [0] rfl ?_
      exact wX12_must_21 K hlt hRm hret o6 o8 1 h
    · have h := ht9 qh; clear ht9 hf9
      refine g_aload_n K dX12_must_8 rfl 0 rfl ?_
      obtain ⟨z_1, hz_1, h⟩ := gi_bd h
      refine g_callVi (As := []) (bytes := cX12_here) (maxL := 1) (ret := (some .int)) K (ctX12_here (gu (gu o 6 o6) 8 o8) A (res := z_1) hz_1) gc_V_RX12_64_X12_here rfl qv_X12_here 0 rfl rfl rfl hRm rfl rfl rfl (by decide) (Nat.le_of_ble_eq_true rfl) (by decide) dX12_must_9 (fun v w hw => ?_)
      obtain ⟨hv9, rfl⟩ := hw; have hv9 := hv9.symm; subst hv9
      refine g_iload_n K dX12_must_12 rfl 1 rfl ?_
      obtain ⟨ht9, hf9⟩ := gi_br h; clear h
      refine g_icmp_eq (tgt := 20) K dX12_must_13 (by decide) (fun qh => ?_) (fun qh => ?_)
      · have h := ht9 qh; clear ht9 hf9
        refine g_iconst (v := 0) K dX12_must_20 (by decide) ?_
        refine g_sub (L' := [(0, .ref m)]) [0] rfl ?_
        exact wX12_must_21 K hlt hRm hret o6 o8 0 h
      · have h := hf9 qh; clear ht9 hf9
        refine g_iconst (v := 1) K dX12_must_16 (by decide) ?_
        refine g_goto (tgt := 21) K dX12_must_17 (by decide) ?_
        refine g_sub (L' := [(0, .ref m)]) [0] rfl ?_
        exact wX12_must_21 K hlt hRm hret o6 o8 1 h

set_option maxRecDepth 100000 in
theorem ctX12_must {E : gE} {m : Nat} {r : Nat → Nat} (o : Nat → Int32) (A : Nat → Nat → Int32) (x1 : Int32) {res : Int32 × Int32} (h : pX12_must (A 1) (o 7) (o 6) (o 8) x1 = some res) : gMv yX12_must (.code yX12_must cX12_must 2 none :: gU) ({ frames := 5, cells := 0, slots := 0, locals := 170 } : Room) 0 0 E [.ref m, .int x1] (mw E m r o A) (fun w => w = mw E m r (gu (gu o 6 res.1) 8 res.2) A) := by
  refine g_met_v (by decide +kernel) (Nat.le_of_ble_eq_true rfl) (fun Γ K hn hE hRm _ hret => ?_)
  subst hE
  have hlt : ∀ i, i < 2 → i < g_n Γ := fun i q => by rw [hn]; exact q
  refine g_ws (ws' := mw (g_E Γ) m r (gu (gu o 6 (o 6)) 8 (o 8)) A) rfl ?_
  refine g_sub (L' := [(0, .ref m), (1, .int x1)]) [0, 1] rfl ?_
  exact wX12_must K hlt hRm hret (o 6) (o 8) x1 h

set_option maxHeartbeats 4000000 in
set_option maxRecDepth 100000 in
theorem wX12_spells_s5_2 {Γ : gT} {m : Nat} {r : Nat → Nat} {o : Nat → Int32} {A : Nat → Nat → Int32} (K : gOK Γ cX12_spells gU RX12) (hlt : ∀ i, i < 3 → i < g_n Γ) (hRm : g_R Γ = ({ frames := 10, cells := 0, slots := 0, locals := 400 } : Room)) {res : Int32 × Int32} (hret : ∀ (pc : Nat) (L : List (Nat × Value)) (w : va_W), decode cX12_spells pc = .ok (.return_, 1) → (w = mw (g_E Γ) m r (gu (gu o 6 res.1) 8 res.2) A) → gGO Γ 0 0 pc L [] w) : ∀ (n : Nat) (o6 : Int32) (o8 : Int32) (x2 : Int32), pX12_spells_s5_2 (A 1) (o 7) n o6 o8 x2 = some res → gGO Γ 0 0 2 [(0, .ref m), (1, .ref (gK (g_E Γ) 5)), (2, .int x2)] [] (mw (g_E Γ) m r (gu (gu o 6 o6) 8 o8) A) := by
  intro n
  induction n with
  | zero => intro _ _ _ h; cases h
  | succ n ih =>
    intro o6 o8 x2 h
    simp only [pX12_spells_s5_2] at h
    refine g_iload_n K dX12_spells_2 rfl 2 rfl ?_
    refine g_aload_n K dX12_spells_3 rfl 1 rfl ?_
    obtain ⟨z_1, hz_1, h⟩ := gi_bd h
    refine g_callViK (As := []) (bytes := cJ0_length_8abf5) (maxL := 1) (ret := (some .int)) K (ctJ0_length_8abf5 (ws := mw (g_E Γ) m r (gu (gu o 6 o6) 8 o8) A) (i0 := 5) (by decide) (res := z_1) hz_1) gc_V_RX12_68_J0_length_8abf5 rfl qv_J0_length_8abf5 (by decide) hRm rfl rfl rfl (by decide) (Nat.le_of_ble_eq_true rfl) (by decide) dX12_spells_4 (fun v w hw => ?_)
    obtain ⟨hv9, rfl⟩ := hw; have hv9 := hv9.symm; subst hv9
    obtain ⟨ht9, hf9⟩ := gi_br h; clear h
    refine g_icmp_ge (tgt := 25) K dX12_spells_7 (by decide) (fun qh => ?_) (fun qh => ?_)
    · have h := ht9 qh; clear ht9 hf9
      obtain rfl := Option.some.inj h
      exact hret _ _ _ dX12_spells_25 rfl
    · have h := hf9 qh; clear ht9 hf9
      refine g_aload_n K dX12_spells_10 rfl 0 rfl ?_
      refine g_aload_n K dX12_spells_11 rfl 1 rfl ?_
      refine g_iload_n K dX12_spells_12 rfl 2 rfl ?_
      obtain ⟨z_2, hz_2, h⟩ := gi_bd h
      refine g_callViK (As := [.int x2]) (bytes := cJ0_charAt_5068e) (maxL := 2) (ret := (some .char)) K (ctJ0_charAt_5068e (ws := mw (g_E Γ) m r (gu (gu o 6 o6) 8 o8) A) (i0 := 5) (by decide) x2 (res := z_2) hz_2) gc_V_RX12_73_J0_charAt_5068e rfl qv_J0_charAt_5068e (by decide) hRm rfl rfl rfl (by decide) (Nat.le_of_ble_eq_true rfl) (by decide) dX12_spells_13 (fun v w hw => ?_)
      obtain ⟨hv9, rfl⟩ := hw; have hv9 := hv9.symm; subst hv9
      obtain ⟨z_3, hz_3, h⟩ := gi_bd h
      refine g_callVv (As := [.int z_2]) (bytes := cX12_must) (maxL := 2) (ret := none) K (ctX12_must (gu (gu o 6 o6) 8 o8) A z_2 (res := z_3) hz_3) gc_V_RX12_77_X12_must rfl qv_X12_must 0 rfl rfl rfl hRm rfl rfl rfl (by decide) (Nat.le_of_ble_eq_true rfl) (by decide) dX12_spells_16 (fun w hw => ?_)
      subst hw
      refine g_ws (ws' := mw (g_E Γ) m r (gu (gu o 6 z_3.1) 8 z_3.2) A) rfl ?_
      refine g_iinc (v := (x2 + 1)) (L' := [(2, .int (x2 + 1)), (0, .ref m), (1, .ref (gK (g_E Γ) 5))]) K dX12_spells_19 2 rfl rfl (hlt _ (by decide)) rfl ?_
      refine g_goto (tgt := 2) K dX12_spells_22 (by decide) ?_
      refine g_sub (L' := [(0, .ref m), (1, .ref (gK (g_E Γ) 5)), (2, .int (x2 + 1))]) [1, 2, 0] rfl ?_
      exact ih z_3.1 z_3.2 (x2 + 1) h

set_option maxHeartbeats 4000000 in
set_option maxRecDepth 100000 in
theorem wX12_spells_s5 {Γ : gT} {m : Nat} {r : Nat → Nat} {o : Nat → Int32} {A : Nat → Nat → Int32} (K : gOK Γ cX12_spells gU RX12) (hlt : ∀ i, i < 3 → i < g_n Γ) (hRm : g_R Γ = ({ frames := 10, cells := 0, slots := 0, locals := 400 } : Room)) {res : Int32 × Int32} (hret : ∀ (pc : Nat) (L : List (Nat × Value)) (w : va_W), decode cX12_spells pc = .ok (.return_, 1) → (w = mw (g_E Γ) m r (gu (gu o 6 res.1) 8 res.2) A) → gGO Γ 0 0 pc L [] w) (o6 : Int32) (o8 : Int32) (h : pX12_spells_s5 (A 1) (o 7) o6 o8 = some res) : gGO Γ 0 0 0 [(0, .ref m), (1, .ref (gK (g_E Γ) 5))] [] (mw (g_E Γ) m r (gu (gu o 6 o6) 8 o8) A) := by
    unfold pX12_spells_s5 at h
    refine g_iconst (v := 0) K dX12_spells_0 (by decide) ?_
    refine g_istore_n (L' := [(2, .int 0), (0, .ref m), (1, .ref (gK (g_E Γ) 5))]) K dX12_spells_1 rfl (hlt _ (by decide)) rfl ?_
    refine g_sub (L' := [(0, .ref m), (1, .ref (gK (g_E Γ) 5)), (2, .int 0)]) [1, 2, 0] rfl ?_
    exact wX12_spells_s5_2 K hlt hRm hret 1000 o6 o8 0 h

set_option maxRecDepth 100000 in
theorem ctX12_spells_s5 {E : gE} {m : Nat} {r : Nat → Nat} (o : Nat → Int32) (A : Nat → Nat → Int32) {res : Int32 × Int32} (h : pX12_spells_s5 (A 1) (o 7) (o 6) (o 8) = some res) : gMv yX12_spells (.code yX12_spells cX12_spells 3 none :: gU) ({ frames := 10, cells := 0, slots := 0, locals := 400 } : Room) 0 0 E [.ref m, .ref (gK E 5)] (mw E m r o A) (fun w => w = mw E m r (gu (gu o 6 res.1) 8 res.2) A) := by
  refine g_met_v (by decide +kernel) (Nat.le_of_ble_eq_true rfl) (fun Γ K hn hE hRm _ hret => ?_)
  subst hE
  have hlt : ∀ i, i < 3 → i < g_n Γ := fun i q => by rw [hn]; exact q
  refine g_ws (ws' := mw (g_E Γ) m r (gu (gu o 6 (o 6)) 8 (o 8)) A) rfl ?_
  refine g_sub (L' := [(0, .ref m), (1, .ref (gK (g_E Γ) 5))]) [0, 1] rfl ?_
  exact wX12_spells_s5 K hlt hRm hret (o 6) (o 8) h

set_option maxHeartbeats 4000000 in
set_option maxRecDepth 100000 in
theorem wX12_figures_68 {Γ : gT} {m : Nat} {r : Nat → Nat} {o : Nat → Int32} {A : Nat → Nat → Int32} (K : gOK Γ cX12_figures gU RX12) (hlt : ∀ i, i < 3 → i < g_n Γ) (hRm : g_R Γ = ({ frames := 5, cells := 0, slots := 0, locals := 172 } : Room)) {res : Int32 × Int32 × Int32} (hret : ∀ (pc : Nat) (L : List (Nat × Value)) (v : Int32) (w : va_W), decode cX12_figures pc = .ok (.ireturn, 1) → narrow .int (.int v) = .int v → (v = res.1 ∧ w = mw (g_E Γ) m r (gu (gu o 6 res.2.1) 8 res.2.2) A) → gGO Γ 0 0 pc L [.int v] w) {k34 : Int32 → Int32 → Int32 → Int32 → Option (Int32 × Int32 × Int32)} (hk34 : ∀ (o6 : Int32) (o8 : Int32) (x1 : Int32) (x2 : Int32), k34 o6 o8 x1 x2 = some res → gGO Γ 0 0 34 [(0, .ref m), (1, .int x1), (2, .int x2)] [] (mw (g_E Γ) m r (gu (gu o 6 o6) 8 o8) A)) (o6 : Int32) (o8 : Int32) (x1 : Int32) (x2 : Int32) (h : pX12_figures_68 k34 (A 1) (o 7) o6 o8 x1 x2 = some res) : gGO Γ 0 0 68 [(0, .ref m), (1, .int x1), (2, .int x2)] [] (mw (g_E Γ) m r (gu (gu o 6 o6) 8 o8) A) := by
    unfold pX12_figures_68 at h
    refine g_bipush (v := 10) K dX12_figures_68 (by decide) ?_
    refine g_iload_n K dX12_figures_70 rfl 1 rfl ?_
    refine g_imul K dX12_figures_71 ?_
    refine g_aload_n K dX12_figures_72 rfl 0 rfl ?_
    obtain ⟨z_1, hz_1, h⟩ := gi_bd h
    refine g_callVi (As := []) (bytes := cX12_here) (maxL := 1) (ret := (some .int)) K (ctX12_here (gu (gu o 6 o6) 8 o8) A (res := z_1) hz_1) gc_V_RX12_64_X12_here rfl qv_X12_here 0 rfl rfl rfl hRm rfl rfl rfl (by decide) (Nat.le_of_ble_eq_true rfl) (by decide) dX12_figures_73 (fun v w hw => ?_)
    obtain ⟨hv9, rfl⟩ := hw; have hv9 := hv9.symm; subst hv9
    refine g_iadd K dX12_figures_76 ?_
    refine g_bipush (v := 48) K dX12_figures_77 (by decide) ?_
    refine g_isub K dX12_figures_79 ?_
    obtain ⟨v_2, ev_2, h⟩ := gi_nm h
    refine g_topi ev_2 ?_
    refine g_istore_n (L' := [(1, .int v_2), (0, .ref m), (2, .int x2)]) K dX12_figures_80 rfl (hlt _ (by decide)) rfl ?_
    refine g_aload_n K dX12_figures_81 rfl 1 rfl ?_
    refine g_dup K dX12_figures_82 rfl ?_
    refine mg_6 (v := o6) K hin_X12 (u_985) rfl dX12_figures_83 ?_
    refine g_iconst (v := 1) K dX12_figures_86 (by decide) ?_
    refine g_iadd K dX12_figures_87 ?_
    refine mp_6 (w' := mw (g_E Γ) m r (gu (gu o 6 (o6 + 1)) 8 o8) A) K hin_X12 (u_985) rfl rfl dX12_figures_88 rfl ?_
    refine g_iinc (v := (x2 + 1)) (L' := [(2, .int (x2 + 1)), (1, .int v_2), (0, .ref m)]) K dX12_figures_91 2 rfl rfl (hlt _ (by decide)) rfl ?_
    refine g_goto (tgt := 34) K dX12_figures_94 (by decide) ?_
    refine g_sub (L' := [(0, .ref m), (1, .int v_2), (2, .int (x2 + 1))]) [2, 1, 0] rfl ?_
    exact hk34 (o6 + 1) o8 v_2 (x2 + 1) h

set_option maxHeartbeats 4000000 in
set_option maxRecDepth 100000 in
theorem wX12_figures_34 {Γ : gT} {m : Nat} {r : Nat → Nat} {o : Nat → Int32} {A : Nat → Nat → Int32} (K : gOK Γ cX12_figures gU RX12) (hlt : ∀ i, i < 3 → i < g_n Γ) (hRm : g_R Γ = ({ frames := 5, cells := 0, slots := 0, locals := 172 } : Room)) {res : Int32 × Int32 × Int32} (hret : ∀ (pc : Nat) (L : List (Nat × Value)) (v : Int32) (w : va_W), decode cX12_figures pc = .ok (.ireturn, 1) → narrow .int (.int v) = .int v → (v = res.1 ∧ w = mw (g_E Γ) m r (gu (gu o 6 res.2.1) 8 res.2.2) A) → gGO Γ 0 0 pc L [.int v] w) : ∀ (n : Nat) (o6 : Int32) (o8 : Int32) (x1 : Int32) (x2 : Int32), pX12_figures_34 (A 1) (o 7) n o6 o8 x1 x2 = some res → gGO Γ 0 0 34 [(0, .ref m), (1, .int x1), (2, .int x2)] [] (mw (g_E Γ) m r (gu (gu o 6 o6) 8 o8) A) := by
  intro n
  induction n with
  | zero => intro _ _ _ _ h; cases h
  | succ n ih =>
    intro o6 o8 x1 x2 h
    simp only [pX12_figures_34] at h
    refine g_iload_n K dX12_figures_34 rfl 2 rfl ?_
    refine g_iconst (v := 2) K dX12_figures_35 (by decide) ?_
    obtain ⟨ht9, hf9⟩ := gi_br h; clear h
    refine g_icmp_ge (tgt := 97) K dX12_figures_36 (by decide) (fun qh => ?_) (fun qh => ?_)
    · have h := ht9 qh; clear ht9 hf9
      refine g_iload_n K dX12_figures_97 rfl 1 rfl ?_
      obtain rfl := Option.some.inj h
      exact hret _ _ _ _ dX12_figures_98 rfl ⟨rfl, rfl⟩
    · have h := hf9 qh; clear ht9 hf9
      refine g_aload_n K dX12_figures_39 rfl 0 rfl ?_
      refine mg_8 (v := o8) K hin_X12 (u_987) rfl dX12_figures_40 ?_
      obtain ⟨ht9, hf9⟩ := gi_br h; clear h
      refine g_if_ne (tgt := 97) K dX12_figures_43 (by decide) (fun qh => ?_) (fun qh => ?_)
      · have h := hf9 qh; clear ht9 hf9
        refine g_iload_n K dX12_figures_97 rfl 1 rfl ?_
        obtain rfl := Option.some.inj h
        exact hret _ _ _ _ dX12_figures_98 rfl ⟨rfl, rfl⟩
      · have h := ht9 qh; clear ht9 hf9
        refine g_aload_n K dX12_figures_46 rfl 0 rfl ?_
        obtain ⟨z_1, hz_1, h⟩ := gi_bd h
        refine g_callVi (As := []) (bytes := cX12_here) (maxL := 1) (ret := (some .int)) K (ctX12_here (gu (gu o 6 o6) 8 o8) A (res := z_1) hz_1) gc_V_RX12_64_X12_here rfl qv_X12_here 0 rfl rfl rfl hRm rfl rfl rfl (by decide) (Nat.le_of_ble_eq_true rfl) (by decide) dX12_figures_47 (fun v w hw => ?_)
        obtain ⟨hv9, rfl⟩ := hw; have hv9 := hv9.symm; subst hv9
        refine g_bipush (v := 48) K dX12_figures_50 (by decide) ?_
        refine g_bipush (v := 57) K dX12_figures_52 (by decide) ?_
        obtain ⟨z_2, hz_2, h⟩ := gi_bd h
        refine g_callSi (As := [.int z_1, .int 48, .int 57]) (bytes := cX12_in) (maxL := 3) (ret := (some .boolean)) K (ctX12_in (ws := mw (g_E Γ) m r (gu (gu o 6 o6) 8 o8) A) z_1 48 57 (res := z_2) hz_2) gc_S_RX12_50_X12_in rfl qs_X12_in hRm rfl rfl rfl (by decide) (Nat.le_of_ble_eq_true rfl) (by decide) dX12_figures_54 (fun v w hw => ?_)
        obtain ⟨hv9, rfl⟩ := hw; have hv9 := hv9.symm; subst hv9
        obtain ⟨ht9, hf9⟩ := gi_br h; clear h
        refine g_if_eq (tgt := 97) K dX12_figures_57 (by decide) (fun qh => ?_) (fun qh => ?_)
        · have h := ht9 qh; clear ht9 hf9
          refine g_iload_n K dX12_figures_97 rfl 1 rfl ?_
          obtain rfl := Option.some.inj h
          exact hret _ _ _ _ dX12_figures_98 rfl ⟨rfl, rfl⟩
        · have h := hf9 qh; clear ht9 hf9
          refine g_iload_n K dX12_figures_60 rfl 2 rfl ?_
          obtain ⟨ht9, hf9⟩ := gi_br h; clear h
          refine g_if_eq (tgt := 68) K dX12_figures_61 (by decide) (fun qh => ?_) (fun qh => ?_)
          · have h := ht9 qh; clear ht9 hf9
            exact wX12_figures_68 K hlt hRm hret ih o6 o8 x1 x2 h
          · have h := hf9 qh; clear ht9 hf9
            refine g_iload_n K dX12_figures_64 rfl 1 rfl ?_
            obtain ⟨ht9, hf9⟩ := gi_br h; clear h
            refine g_if_le (tgt := 97) K dX12_figures_65 (by decide) (fun qh => ?_) (fun qh => ?_)
            · have h := ht9 qh; clear ht9 hf9
              refine g_iload_n K dX12_figures_97 rfl 1 rfl ?_
              obtain rfl := Option.some.inj h
              exact hret _ _ _ _ dX12_figures_98 rfl ⟨rfl, rfl⟩
            · have h := hf9 qh; clear ht9 hf9
              exact wX12_figures_68 K hlt hRm hret ih o6 o8 x1 x2 h

set_option maxHeartbeats 4000000 in
set_option maxRecDepth 100000 in
theorem wX12_figures {Γ : gT} {m : Nat} {r : Nat → Nat} {o : Nat → Int32} {A : Nat → Nat → Int32} (K : gOK Γ cX12_figures gU RX12) (hlt : ∀ i, i < 3 → i < g_n Γ) (hRm : g_R Γ = ({ frames := 5, cells := 0, slots := 0, locals := 172 } : Room)) {res : Int32 × Int32 × Int32} (hret : ∀ (pc : Nat) (L : List (Nat × Value)) (v : Int32) (w : va_W), decode cX12_figures pc = .ok (.ireturn, 1) → narrow .int (.int v) = .int v → (v = res.1 ∧ w = mw (g_E Γ) m r (gu (gu o 6 res.2.1) 8 res.2.2) A) → gGO Γ 0 0 pc L [.int v] w) (o6 : Int32) (o8 : Int32) (h : pX12_figures (A 1) (o 7) o6 o8 = some res) : gGO Γ 0 0 0 [(0, .ref m)] [] (mw (g_E Γ) m r (gu (gu o 6 o6) 8 o8) A) := by
    unfold pX12_figures at h
    refine g_aload_n K dX12_figures_0 rfl 0 rfl ?_
    refine g_aload_n K dX12_figures_1 rfl 0 rfl ?_
    refine mg_8 (v := o8) K hin_X12 (u_987) rfl dX12_figures_2 ?_
    obtain ⟨ht9, hf9⟩ := gi_br h; clear h
    refine g_if_ne (tgt := 22) K dX12_figures_5 (by decide) (fun qh => ?_) (fun qh => ?_)
    · have h := hf9 qh; clear ht9 hf9
      refine g_iconst (v := 1) K dX12_figures_22 (by decide) ?_
      refine g_goto (tgt := 27) K dX12_figures_23 (by decide) ?_
      refine mp_8 (w' := mw (g_E Γ) m r (gu (gu o 6 o6) 8 1) A) K hin_X12 (u_987) (by decide) (by decide) dX12_figures_27 rfl ?_
      refine g_iconst (v := 0) K dX12_figures_30 (by decide) ?_
      refine g_istore_n (L' := [(1, .int 0), (0, .ref m)]) K dX12_figures_31 rfl (hlt _ (by decide)) rfl ?_
      refine g_iconst (v := 0) K dX12_figures_32 (by decide) ?_
      refine g_istore_n (L' := [(2, .int 0), (1, .int 0), (0, .ref m)]) K dX12_figures_33 rfl (hlt _ (by decide)) rfl ?_
      refine g_sub (L' := [(0, .ref m), (1, .int 0), (2, .int 0)]) [2, 1, 0] rfl ?_
      exact wX12_figures_34 K hlt hRm hret 1000 o6 1 0 0 h
    · have h := ht9 qh; clear ht9 hf9
      refine g_aload_n K dX12_figures_8 rfl 0 rfl ?_
      obtain ⟨z_1, hz_1, h⟩ := gi_bd h
      refine g_callVi (As := []) (bytes := cX12_here) (maxL := 1) (ret := (some .int)) K (ctX12_here (gu (gu o 6 o6) 8 o8) A (res := z_1) hz_1) gc_V_RX12_64_X12_here rfl qv_X12_here 0 rfl rfl rfl hRm rfl rfl rfl (by decide) (Nat.le_of_ble_eq_true rfl) (by decide) dX12_figures_9 (fun v w hw => ?_)
      obtain ⟨hv9, rfl⟩ := hw; have hv9 := hv9.symm; subst hv9
      refine g_bipush (v := 48) K dX12_figures_12 (by decide) ?_
      refine g_bipush (v := 57) K dX12_figures_14 (by decide) ?_
      obtain ⟨z_2, hz_2, h⟩ := gi_bd h
      refine g_callSi (As := [.int z_1, .int 48, .int 57]) (bytes := cX12_in) (maxL := 3) (ret := (some .boolean)) K (ctX12_in (ws := mw (g_E Γ) m r (gu (gu o 6 o6) 8 o8) A) z_1 48 57 (res := z_2) hz_2) gc_S_RX12_50_X12_in rfl qs_X12_in hRm rfl rfl rfl (by decide) (Nat.le_of_ble_eq_true rfl) (by decide) dX12_figures_16 (fun v w hw => ?_)
      obtain ⟨hv9, rfl⟩ := hw; have hv9 := hv9.symm; subst hv9
      obtain ⟨ht9, hf9⟩ := gi_br h; clear h
      refine g_if_ne (tgt := 26) K dX12_figures_19 (by decide) (fun qh => ?_) (fun qh => ?_)
      · have h := hf9 qh; clear ht9 hf9
        refine g_iconst (v := 0) K dX12_figures_26 (by decide) ?_
        refine mp_8 (w' := mw (g_E Γ) m r (gu (gu o 6 o6) 8 0) A) K hin_X12 (u_987) (by decide) (by decide) dX12_figures_27 rfl ?_
        refine g_iconst (v := 0) K dX12_figures_30 (by decide) ?_
        refine g_istore_n (L' := [(1, .int 0), (0, .ref m)]) K dX12_figures_31 rfl (hlt _ (by decide)) rfl ?_
        refine g_iconst (v := 0) K dX12_figures_32 (by decide) ?_
        refine g_istore_n (L' := [(2, .int 0), (1, .int 0), (0, .ref m)]) K dX12_figures_33 rfl (hlt _ (by decide)) rfl ?_
        refine g_sub (L' := [(0, .ref m), (1, .int 0), (2, .int 0)]) [2, 1, 0] rfl ?_
        exact wX12_figures_34 K hlt hRm hret 1000 o6 0 0 0 h
      · have h := ht9 qh; clear ht9 hf9
        refine g_iconst (v := 1) K dX12_figures_22 (by decide) ?_
        refine g_goto (tgt := 27) K dX12_figures_23 (by decide) ?_
        refine mp_8 (w' := mw (g_E Γ) m r (gu (gu o 6 o6) 8 1) A) K hin_X12 (u_987) (by decide) (by decide) dX12_figures_27 rfl ?_
        refine g_iconst (v := 0) K dX12_figures_30 (by decide) ?_
        refine g_istore_n (L' := [(1, .int 0), (0, .ref m)]) K dX12_figures_31 rfl (hlt _ (by decide)) rfl ?_
        refine g_iconst (v := 0) K dX12_figures_32 (by decide) ?_
        refine g_istore_n (L' := [(2, .int 0), (1, .int 0), (0, .ref m)]) K dX12_figures_33 rfl (hlt _ (by decide)) rfl ?_
        refine g_sub (L' := [(0, .ref m), (1, .int 0), (2, .int 0)]) [2, 1, 0] rfl ?_
        exact wX12_figures_34 K hlt hRm hret 1000 o6 1 0 0 h

set_option maxRecDepth 100000 in
theorem ctX12_figures {E : gE} {m : Nat} {r : Nat → Nat} (o : Nat → Int32) (A : Nat → Nat → Int32) {res : Int32 × Int32 × Int32} (h : pX12_figures (A 1) (o 7) (o 6) (o 8) = some res) : gMi yX12_figures (.code yX12_figures cX12_figures 3 (some .int) :: gU) ({ frames := 5, cells := 0, slots := 0, locals := 172 } : Room) 0 0 E [.ref m] (mw E m r o A) (fun v w => v = res.1 ∧ w = mw E m r (gu (gu o 6 res.2.1) 8 res.2.2) A) := by
  refine g_met_i (by decide +kernel) (Nat.le_of_ble_eq_true rfl) (fun Γ K hn hE hRm _ hret => ?_)
  subst hE
  have hlt : ∀ i, i < 3 → i < g_n Γ := fun i q => by rw [hn]; exact q
  refine g_ws (ws' := mw (g_E Γ) m r (gu (gu o 6 (o 6)) 8 (o 8)) A) rfl ?_
  refine g_sub (L' := [(0, .ref m)]) [0] rfl ?_
  exact wX12_figures K hlt hRm hret (o 6) (o 8) h

set_option maxHeartbeats 4000000 in
set_option maxRecDepth 100000 in
theorem wX12_tellsHere_s5 {Γ : gT} {m : Nat} {r : Nat → Nat} {o : Nat → Int32} {A : Nat → Nat → Int32} (K : gOK Γ cX12_tellsHere gU RX12) (hlt : ∀ i, i < 4 → i < g_n Γ) (hRm : g_R Γ = ({ frames := 11, cells := 0, slots := 0, locals := 422 } : Room)) {res : ((Nat → Int32)) × Int32 × Int32} (hret : ∀ (pc : Nat) (L : List (Nat × Value)) (w : va_W), decode cX12_tellsHere pc = .ok (.return_, 1) → (w = mw (g_E Γ) m r (gu (gu o 6 res.2.1) 8 res.2.2) (gu A 1 res.1)) → gGO Γ 0 0 pc L [] w) (a1 : (Nat → Int32)) (o6 : Int32) (o8 : Int32) (x1 : Int32) (h : pX12_tellsHere_s5 (o 5) (o 7) a1 o6 o8 x1 = some res) : gGO Γ 0 0 0 [(0, .ref m), (1, .int x1), (2, .ref (gK (g_E Γ) 5))] [] (mw (g_E Γ) m r (gu (gu o 6 o6) 8 o8) (gu A 1 a1)) := by
    unfold pX12_tellsHere_s5 at h
    refine g_aload_n K dX12_tellsHere_0 rfl 0 rfl ?_
    refine g_aload_n K dX12_tellsHere_1 rfl 2 rfl ?_
    obtain ⟨z_1, hz_1, h⟩ := gi_bd h
    refine g_callVv (As := [.ref (gK (g_E Γ) 5)]) (bytes := cX12_spells) (maxL := 3) (ret := none) K (ctX12_spells_s5 (gu (gu o 6 o6) 8 o8) (gu A 1 a1) (res := z_1) hz_1) gc_V_RX12_110_X12_spells rfl qv_X12_spells 0 rfl rfl rfl hRm rfl rfl rfl (by decide) (Nat.le_of_ble_eq_true rfl) (by decide) dX12_tellsHere_2 (fun w hw => ?_)
    subst hw
    refine g_ws (ws' := mw (g_E Γ) m r (gu (gu o 6 z_1.1) 8 z_1.2) (gu A 1 a1)) rfl ?_
    refine g_aload_n K dX12_tellsHere_5 rfl 0 rfl ?_
    obtain ⟨z_2, hz_2, h⟩ := gi_bd h
    refine g_callVi (As := []) (bytes := cX12_figures) (maxL := 3) (ret := (some .int)) K (ctX12_figures (gu (gu o 6 z_1.1) 8 z_1.2) (gu A 1 a1) (res := z_2) hz_2) gc_V_RX12_104_X12_figures rfl qv_X12_figures 0 rfl rfl rfl hRm rfl rfl rfl (by decide) (Nat.le_of_ble_eq_true rfl) (by decide) dX12_tellsHere_6 (fun v w hw => ?_)
    obtain ⟨hv9, rfl⟩ := hw; have hv9 := hv9.symm; subst hv9
    refine g_ws (ws' := mw (g_E Γ) m r (gu (gu o 6 z_2.2.1) 8 z_2.2.2) (gu A 1 a1)) rfl ?_
    obtain ⟨v_3, ev_3, h⟩ := gi_nm h
    refine g_topi ev_3 ?_
    refine g_istore_n (L' := [(3, .int v_3), (0, .ref m), (1, .int x1), (2, .ref (gK (g_E Γ) 5))]) K dX12_tellsHere_9 rfl (hlt _ (by decide)) rfl ?_
    refine g_aload_n K dX12_tellsHere_10 rfl 1 rfl ?_
    refine mg_8 (v := z_2.2.2) K hin_X12 (u_987) rfl dX12_tellsHere_11 ?_
    obtain ⟨ht9, hf9⟩ := gi_br h; clear h
    refine g_if_ne (tgt := 29) K dX12_tellsHere_14 (by decide) (fun qh => ?_) (fun qh => ?_)
    · have h := hf9 qh; clear ht9 hf9
      obtain rfl := Option.some.inj h
      exact hret _ _ _ dX12_tellsHere_29 rfl
    · have h := ht9 qh; clear ht9 hf9
      refine g_aload_n K dX12_tellsHere_17 rfl 1 rfl ?_
      refine mg_1 K hin_X12 (u_980) dX12_tellsHere_18 ?_
      refine g_iload_n K dX12_tellsHere_21 rfl 2 rfl ?_
      refine g_aload_n K dX12_tellsHere_22 rfl 1 rfl ?_
      refine mg_5 (v := (o 5)) K hin_X12 (u_984) rfl dX12_tellsHere_23 ?_
      refine g_iadd K dX12_tellsHere_26 ?_
      refine g_iload_n K dX12_tellsHere_27 rfl 0 rfl ?_
      obtain ⟨b_4, h⟩ := gi_none h
      obtain ⟨f_5, ef_5, h⟩ := gi_nm h
      refine g_iast (f := a1) (ws' := mw (g_E Γ) m r (gu (gu o 6 z_2.2.1) 8 z_2.2.2) (gu A 1 f_5)) K 1 rfl (ginb_in b_4) dX12_tellsHere_28 (by rw [ef_5]; rfl) ?_
      obtain rfl := Option.some.inj h
      exact hret _ _ _ dX12_tellsHere_29 rfl

set_option maxRecDepth 100000 in
theorem ctX12_tellsHere_s5 {E : gE} {m : Nat} {r : Nat → Nat} (o : Nat → Int32) (A : Nat → Nat → Int32) (x1 : Int32) {res : ((Nat → Int32)) × Int32 × Int32} (h : pX12_tellsHere_s5 (o 5) (o 7) (A 1) (o 6) (o 8) x1 = some res) : gMv yX12_tellsHere (.code yX12_tellsHere cX12_tellsHere 4 none :: gU) ({ frames := 11, cells := 0, slots := 0, locals := 422 } : Room) 0 0 E [.ref m, .int x1, .ref (gK E 5)] (mw E m r o A) (fun w => w = mw E m r (gu (gu o 6 res.2.1) 8 res.2.2) (gu A 1 res.1)) := by
  refine g_met_v (by decide +kernel) (Nat.le_of_ble_eq_true rfl) (fun Γ K hn hE hRm _ hret => ?_)
  subst hE
  have hlt : ∀ i, i < 4 → i < g_n Γ := fun i q => by rw [hn]; exact q
  refine g_ws (ws' := mw (g_E Γ) m r (gu (gu o 6 (o 6)) 8 (o 8)) (gu A 1 (A 1))) rfl ?_
  refine g_sub (L' := [(0, .ref m), (1, .int x1), (2, .ref (gK (g_E Γ) 5))]) [0, 1, 2] rfl ?_
  exact wX12_tellsHere_s5 K hlt hRm hret (A 1) (o 6) (o 8) x1 h

set_option maxHeartbeats 4000000 in
set_option maxRecDepth 100000 in
theorem wX12_spells_s4_2 {Γ : gT} {m : Nat} {r : Nat → Nat} {o : Nat → Int32} {A : Nat → Nat → Int32} (K : gOK Γ cX12_spells gU RX12) (hlt : ∀ i, i < 3 → i < g_n Γ) (hRm : g_R Γ = ({ frames := 10, cells := 0, slots := 0, locals := 400 } : Room)) {res : Int32 × Int32} (hret : ∀ (pc : Nat) (L : List (Nat × Value)) (w : va_W), decode cX12_spells pc = .ok (.return_, 1) → (w = mw (g_E Γ) m r (gu (gu o 6 res.1) 8 res.2) A) → gGO Γ 0 0 pc L [] w) : ∀ (n : Nat) (o6 : Int32) (o8 : Int32) (x2 : Int32), pX12_spells_s4_2 (A 1) (o 7) n o6 o8 x2 = some res → gGO Γ 0 0 2 [(0, .ref m), (1, .ref (gK (g_E Γ) 4)), (2, .int x2)] [] (mw (g_E Γ) m r (gu (gu o 6 o6) 8 o8) A) := by
  intro n
  induction n with
  | zero => intro _ _ _ h; cases h
  | succ n ih =>
    intro o6 o8 x2 h
    simp only [pX12_spells_s4_2] at h
    refine g_iload_n K dX12_spells_2 rfl 2 rfl ?_
    refine g_aload_n K dX12_spells_3 rfl 1 rfl ?_
    obtain ⟨z_1, hz_1, h⟩ := gi_bd h
    refine g_callViK (As := []) (bytes := cJ0_length_8abf5) (maxL := 1) (ret := (some .int)) K (ctJ0_length_8abf5 (ws := mw (g_E Γ) m r (gu (gu o 6 o6) 8 o8) A) (i0 := 4) (by decide) (res := z_1) hz_1) gc_V_RX12_68_J0_length_8abf5 rfl qv_J0_length_8abf5 (by decide) hRm rfl rfl rfl (by decide) (Nat.le_of_ble_eq_true rfl) (by decide) dX12_spells_4 (fun v w hw => ?_)
    obtain ⟨hv9, rfl⟩ := hw; have hv9 := hv9.symm; subst hv9
    obtain ⟨ht9, hf9⟩ := gi_br h; clear h
    refine g_icmp_ge (tgt := 25) K dX12_spells_7 (by decide) (fun qh => ?_) (fun qh => ?_)
    · have h := ht9 qh; clear ht9 hf9
      obtain rfl := Option.some.inj h
      exact hret _ _ _ dX12_spells_25 rfl
    · have h := hf9 qh; clear ht9 hf9
      refine g_aload_n K dX12_spells_10 rfl 0 rfl ?_
      refine g_aload_n K dX12_spells_11 rfl 1 rfl ?_
      refine g_iload_n K dX12_spells_12 rfl 2 rfl ?_
      obtain ⟨z_2, hz_2, h⟩ := gi_bd h
      refine g_callViK (As := [.int x2]) (bytes := cJ0_charAt_5068e) (maxL := 2) (ret := (some .char)) K (ctJ0_charAt_5068e (ws := mw (g_E Γ) m r (gu (gu o 6 o6) 8 o8) A) (i0 := 4) (by decide) x2 (res := z_2) hz_2) gc_V_RX12_73_J0_charAt_5068e rfl qv_J0_charAt_5068e (by decide) hRm rfl rfl rfl (by decide) (Nat.le_of_ble_eq_true rfl) (by decide) dX12_spells_13 (fun v w hw => ?_)
      obtain ⟨hv9, rfl⟩ := hw; have hv9 := hv9.symm; subst hv9
      obtain ⟨z_3, hz_3, h⟩ := gi_bd h
      refine g_callVv (As := [.int z_2]) (bytes := cX12_must) (maxL := 2) (ret := none) K (ctX12_must (gu (gu o 6 o6) 8 o8) A z_2 (res := z_3) hz_3) gc_V_RX12_77_X12_must rfl qv_X12_must 0 rfl rfl rfl hRm rfl rfl rfl (by decide) (Nat.le_of_ble_eq_true rfl) (by decide) dX12_spells_16 (fun w hw => ?_)
      subst hw
      refine g_ws (ws' := mw (g_E Γ) m r (gu (gu o 6 z_3.1) 8 z_3.2) A) rfl ?_
      refine g_iinc (v := (x2 + 1)) (L' := [(2, .int (x2 + 1)), (0, .ref m), (1, .ref (gK (g_E Γ) 4))]) K dX12_spells_19 2 rfl rfl (hlt _ (by decide)) rfl ?_
      refine g_goto (tgt := 2) K dX12_spells_22 (by decide) ?_
      refine g_sub (L' := [(0, .ref m), (1, .ref (gK (g_E Γ) 4)), (2, .int (x2 + 1))]) [1, 2, 0] rfl ?_
      exact ih z_3.1 z_3.2 (x2 + 1) h

set_option maxHeartbeats 4000000 in
set_option maxRecDepth 100000 in
theorem wX12_spells_s4 {Γ : gT} {m : Nat} {r : Nat → Nat} {o : Nat → Int32} {A : Nat → Nat → Int32} (K : gOK Γ cX12_spells gU RX12) (hlt : ∀ i, i < 3 → i < g_n Γ) (hRm : g_R Γ = ({ frames := 10, cells := 0, slots := 0, locals := 400 } : Room)) {res : Int32 × Int32} (hret : ∀ (pc : Nat) (L : List (Nat × Value)) (w : va_W), decode cX12_spells pc = .ok (.return_, 1) → (w = mw (g_E Γ) m r (gu (gu o 6 res.1) 8 res.2) A) → gGO Γ 0 0 pc L [] w) (o6 : Int32) (o8 : Int32) (h : pX12_spells_s4 (A 1) (o 7) o6 o8 = some res) : gGO Γ 0 0 0 [(0, .ref m), (1, .ref (gK (g_E Γ) 4))] [] (mw (g_E Γ) m r (gu (gu o 6 o6) 8 o8) A) := by
    unfold pX12_spells_s4 at h
    refine g_iconst (v := 0) K dX12_spells_0 (by decide) ?_
    refine g_istore_n (L' := [(2, .int 0), (0, .ref m), (1, .ref (gK (g_E Γ) 4))]) K dX12_spells_1 rfl (hlt _ (by decide)) rfl ?_
    refine g_sub (L' := [(0, .ref m), (1, .ref (gK (g_E Γ) 4)), (2, .int 0)]) [1, 2, 0] rfl ?_
    exact wX12_spells_s4_2 K hlt hRm hret 1000 o6 o8 0 h

set_option maxRecDepth 100000 in
theorem ctX12_spells_s4 {E : gE} {m : Nat} {r : Nat → Nat} (o : Nat → Int32) (A : Nat → Nat → Int32) {res : Int32 × Int32} (h : pX12_spells_s4 (A 1) (o 7) (o 6) (o 8) = some res) : gMv yX12_spells (.code yX12_spells cX12_spells 3 none :: gU) ({ frames := 10, cells := 0, slots := 0, locals := 400 } : Room) 0 0 E [.ref m, .ref (gK E 4)] (mw E m r o A) (fun w => w = mw E m r (gu (gu o 6 res.1) 8 res.2) A) := by
  refine g_met_v (by decide +kernel) (Nat.le_of_ble_eq_true rfl) (fun Γ K hn hE hRm _ hret => ?_)
  subst hE
  have hlt : ∀ i, i < 3 → i < g_n Γ := fun i q => by rw [hn]; exact q
  refine g_ws (ws' := mw (g_E Γ) m r (gu (gu o 6 (o 6)) 8 (o 8)) A) rfl ?_
  refine g_sub (L' := [(0, .ref m), (1, .ref (gK (g_E Γ) 4))]) [0, 1] rfl ?_
  exact wX12_spells_s4 K hlt hRm hret (o 6) (o 8) h

set_option maxHeartbeats 4000000 in
set_option maxRecDepth 100000 in
theorem wX12_tellsHere_s4 {Γ : gT} {m : Nat} {r : Nat → Nat} {o : Nat → Int32} {A : Nat → Nat → Int32} (K : gOK Γ cX12_tellsHere gU RX12) (hlt : ∀ i, i < 4 → i < g_n Γ) (hRm : g_R Γ = ({ frames := 11, cells := 0, slots := 0, locals := 422 } : Room)) {res : ((Nat → Int32)) × Int32 × Int32} (hret : ∀ (pc : Nat) (L : List (Nat × Value)) (w : va_W), decode cX12_tellsHere pc = .ok (.return_, 1) → (w = mw (g_E Γ) m r (gu (gu o 6 res.2.1) 8 res.2.2) (gu A 1 res.1)) → gGO Γ 0 0 pc L [] w) (a1 : (Nat → Int32)) (o6 : Int32) (o8 : Int32) (x1 : Int32) (h : pX12_tellsHere_s4 (o 5) (o 7) a1 o6 o8 x1 = some res) : gGO Γ 0 0 0 [(0, .ref m), (1, .int x1), (2, .ref (gK (g_E Γ) 4))] [] (mw (g_E Γ) m r (gu (gu o 6 o6) 8 o8) (gu A 1 a1)) := by
    unfold pX12_tellsHere_s4 at h
    refine g_aload_n K dX12_tellsHere_0 rfl 0 rfl ?_
    refine g_aload_n K dX12_tellsHere_1 rfl 2 rfl ?_
    obtain ⟨z_1, hz_1, h⟩ := gi_bd h
    refine g_callVv (As := [.ref (gK (g_E Γ) 4)]) (bytes := cX12_spells) (maxL := 3) (ret := none) K (ctX12_spells_s4 (gu (gu o 6 o6) 8 o8) (gu A 1 a1) (res := z_1) hz_1) gc_V_RX12_110_X12_spells rfl qv_X12_spells 0 rfl rfl rfl hRm rfl rfl rfl (by decide) (Nat.le_of_ble_eq_true rfl) (by decide) dX12_tellsHere_2 (fun w hw => ?_)
    subst hw
    refine g_ws (ws' := mw (g_E Γ) m r (gu (gu o 6 z_1.1) 8 z_1.2) (gu A 1 a1)) rfl ?_
    refine g_aload_n K dX12_tellsHere_5 rfl 0 rfl ?_
    obtain ⟨z_2, hz_2, h⟩ := gi_bd h
    refine g_callVi (As := []) (bytes := cX12_figures) (maxL := 3) (ret := (some .int)) K (ctX12_figures (gu (gu o 6 z_1.1) 8 z_1.2) (gu A 1 a1) (res := z_2) hz_2) gc_V_RX12_104_X12_figures rfl qv_X12_figures 0 rfl rfl rfl hRm rfl rfl rfl (by decide) (Nat.le_of_ble_eq_true rfl) (by decide) dX12_tellsHere_6 (fun v w hw => ?_)
    obtain ⟨hv9, rfl⟩ := hw; have hv9 := hv9.symm; subst hv9
    refine g_ws (ws' := mw (g_E Γ) m r (gu (gu o 6 z_2.2.1) 8 z_2.2.2) (gu A 1 a1)) rfl ?_
    obtain ⟨v_3, ev_3, h⟩ := gi_nm h
    refine g_topi ev_3 ?_
    refine g_istore_n (L' := [(3, .int v_3), (0, .ref m), (1, .int x1), (2, .ref (gK (g_E Γ) 4))]) K dX12_tellsHere_9 rfl (hlt _ (by decide)) rfl ?_
    refine g_aload_n K dX12_tellsHere_10 rfl 1 rfl ?_
    refine mg_8 (v := z_2.2.2) K hin_X12 (u_987) rfl dX12_tellsHere_11 ?_
    obtain ⟨ht9, hf9⟩ := gi_br h; clear h
    refine g_if_ne (tgt := 29) K dX12_tellsHere_14 (by decide) (fun qh => ?_) (fun qh => ?_)
    · have h := hf9 qh; clear ht9 hf9
      obtain rfl := Option.some.inj h
      exact hret _ _ _ dX12_tellsHere_29 rfl
    · have h := ht9 qh; clear ht9 hf9
      refine g_aload_n K dX12_tellsHere_17 rfl 1 rfl ?_
      refine mg_1 K hin_X12 (u_980) dX12_tellsHere_18 ?_
      refine g_iload_n K dX12_tellsHere_21 rfl 2 rfl ?_
      refine g_aload_n K dX12_tellsHere_22 rfl 1 rfl ?_
      refine mg_5 (v := (o 5)) K hin_X12 (u_984) rfl dX12_tellsHere_23 ?_
      refine g_iadd K dX12_tellsHere_26 ?_
      refine g_iload_n K dX12_tellsHere_27 rfl 0 rfl ?_
      obtain ⟨b_4, h⟩ := gi_none h
      obtain ⟨f_5, ef_5, h⟩ := gi_nm h
      refine g_iast (f := a1) (ws' := mw (g_E Γ) m r (gu (gu o 6 z_2.2.1) 8 z_2.2.2) (gu A 1 f_5)) K 1 rfl (ginb_in b_4) dX12_tellsHere_28 (by rw [ef_5]; rfl) ?_
      obtain rfl := Option.some.inj h
      exact hret _ _ _ dX12_tellsHere_29 rfl

set_option maxRecDepth 100000 in
theorem ctX12_tellsHere_s4 {E : gE} {m : Nat} {r : Nat → Nat} (o : Nat → Int32) (A : Nat → Nat → Int32) (x1 : Int32) {res : ((Nat → Int32)) × Int32 × Int32} (h : pX12_tellsHere_s4 (o 5) (o 7) (A 1) (o 6) (o 8) x1 = some res) : gMv yX12_tellsHere (.code yX12_tellsHere cX12_tellsHere 4 none :: gU) ({ frames := 11, cells := 0, slots := 0, locals := 422 } : Room) 0 0 E [.ref m, .int x1, .ref (gK E 4)] (mw E m r o A) (fun w => w = mw E m r (gu (gu o 6 res.2.1) 8 res.2.2) (gu A 1 res.1)) := by
  refine g_met_v (by decide +kernel) (Nat.le_of_ble_eq_true rfl) (fun Γ K hn hE hRm _ hret => ?_)
  subst hE
  have hlt : ∀ i, i < 4 → i < g_n Γ := fun i q => by rw [hn]; exact q
  refine g_ws (ws' := mw (g_E Γ) m r (gu (gu o 6 (o 6)) 8 (o 8)) (gu A 1 (A 1))) rfl ?_
  refine g_sub (L' := [(0, .ref m), (1, .int x1), (2, .ref (gK (g_E Γ) 4))]) [0, 1, 2] rfl ?_
  exact wX12_tellsHere_s4 K hlt hRm hret (A 1) (o 6) (o 8) x1 h

set_option maxHeartbeats 4000000 in
set_option maxRecDepth 100000 in
theorem wX12_spells_s3_2 {Γ : gT} {m : Nat} {r : Nat → Nat} {o : Nat → Int32} {A : Nat → Nat → Int32} (K : gOK Γ cX12_spells gU RX12) (hlt : ∀ i, i < 3 → i < g_n Γ) (hRm : g_R Γ = ({ frames := 10, cells := 0, slots := 0, locals := 400 } : Room)) {res : Int32 × Int32} (hret : ∀ (pc : Nat) (L : List (Nat × Value)) (w : va_W), decode cX12_spells pc = .ok (.return_, 1) → (w = mw (g_E Γ) m r (gu (gu o 6 res.1) 8 res.2) A) → gGO Γ 0 0 pc L [] w) : ∀ (n : Nat) (o6 : Int32) (o8 : Int32) (x2 : Int32), pX12_spells_s3_2 (A 1) (o 7) n o6 o8 x2 = some res → gGO Γ 0 0 2 [(0, .ref m), (1, .ref (gK (g_E Γ) 3)), (2, .int x2)] [] (mw (g_E Γ) m r (gu (gu o 6 o6) 8 o8) A) := by
  intro n
  induction n with
  | zero => intro _ _ _ h; cases h
  | succ n ih =>
    intro o6 o8 x2 h
    simp only [pX12_spells_s3_2] at h
    refine g_iload_n K dX12_spells_2 rfl 2 rfl ?_
    refine g_aload_n K dX12_spells_3 rfl 1 rfl ?_
    obtain ⟨z_1, hz_1, h⟩ := gi_bd h
    refine g_callViK (As := []) (bytes := cJ0_length_8abf5) (maxL := 1) (ret := (some .int)) K (ctJ0_length_8abf5 (ws := mw (g_E Γ) m r (gu (gu o 6 o6) 8 o8) A) (i0 := 3) (by decide) (res := z_1) hz_1) gc_V_RX12_68_J0_length_8abf5 rfl qv_J0_length_8abf5 (by decide) hRm rfl rfl rfl (by decide) (Nat.le_of_ble_eq_true rfl) (by decide) dX12_spells_4 (fun v w hw => ?_)
    obtain ⟨hv9, rfl⟩ := hw; have hv9 := hv9.symm; subst hv9
    obtain ⟨ht9, hf9⟩ := gi_br h; clear h
    refine g_icmp_ge (tgt := 25) K dX12_spells_7 (by decide) (fun qh => ?_) (fun qh => ?_)
    · have h := ht9 qh; clear ht9 hf9
      obtain rfl := Option.some.inj h
      exact hret _ _ _ dX12_spells_25 rfl
    · have h := hf9 qh; clear ht9 hf9
      refine g_aload_n K dX12_spells_10 rfl 0 rfl ?_
      refine g_aload_n K dX12_spells_11 rfl 1 rfl ?_
      refine g_iload_n K dX12_spells_12 rfl 2 rfl ?_
      obtain ⟨z_2, hz_2, h⟩ := gi_bd h
      refine g_callViK (As := [.int x2]) (bytes := cJ0_charAt_5068e) (maxL := 2) (ret := (some .char)) K (ctJ0_charAt_5068e (ws := mw (g_E Γ) m r (gu (gu o 6 o6) 8 o8) A) (i0 := 3) (by decide) x2 (res := z_2) hz_2) gc_V_RX12_73_J0_charAt_5068e rfl qv_J0_charAt_5068e (by decide) hRm rfl rfl rfl (by decide) (Nat.le_of_ble_eq_true rfl) (by decide) dX12_spells_13 (fun v w hw => ?_)
      obtain ⟨hv9, rfl⟩ := hw; have hv9 := hv9.symm; subst hv9
      obtain ⟨z_3, hz_3, h⟩ := gi_bd h
      refine g_callVv (As := [.int z_2]) (bytes := cX12_must) (maxL := 2) (ret := none) K (ctX12_must (gu (gu o 6 o6) 8 o8) A z_2 (res := z_3) hz_3) gc_V_RX12_77_X12_must rfl qv_X12_must 0 rfl rfl rfl hRm rfl rfl rfl (by decide) (Nat.le_of_ble_eq_true rfl) (by decide) dX12_spells_16 (fun w hw => ?_)
      subst hw
      refine g_ws (ws' := mw (g_E Γ) m r (gu (gu o 6 z_3.1) 8 z_3.2) A) rfl ?_
      refine g_iinc (v := (x2 + 1)) (L' := [(2, .int (x2 + 1)), (0, .ref m), (1, .ref (gK (g_E Γ) 3))]) K dX12_spells_19 2 rfl rfl (hlt _ (by decide)) rfl ?_
      refine g_goto (tgt := 2) K dX12_spells_22 (by decide) ?_
      refine g_sub (L' := [(0, .ref m), (1, .ref (gK (g_E Γ) 3)), (2, .int (x2 + 1))]) [1, 2, 0] rfl ?_
      exact ih z_3.1 z_3.2 (x2 + 1) h

set_option maxHeartbeats 4000000 in
set_option maxRecDepth 100000 in
theorem wX12_spells_s3 {Γ : gT} {m : Nat} {r : Nat → Nat} {o : Nat → Int32} {A : Nat → Nat → Int32} (K : gOK Γ cX12_spells gU RX12) (hlt : ∀ i, i < 3 → i < g_n Γ) (hRm : g_R Γ = ({ frames := 10, cells := 0, slots := 0, locals := 400 } : Room)) {res : Int32 × Int32} (hret : ∀ (pc : Nat) (L : List (Nat × Value)) (w : va_W), decode cX12_spells pc = .ok (.return_, 1) → (w = mw (g_E Γ) m r (gu (gu o 6 res.1) 8 res.2) A) → gGO Γ 0 0 pc L [] w) (o6 : Int32) (o8 : Int32) (h : pX12_spells_s3 (A 1) (o 7) o6 o8 = some res) : gGO Γ 0 0 0 [(0, .ref m), (1, .ref (gK (g_E Γ) 3))] [] (mw (g_E Γ) m r (gu (gu o 6 o6) 8 o8) A) := by
    unfold pX12_spells_s3 at h
    refine g_iconst (v := 0) K dX12_spells_0 (by decide) ?_
    refine g_istore_n (L' := [(2, .int 0), (0, .ref m), (1, .ref (gK (g_E Γ) 3))]) K dX12_spells_1 rfl (hlt _ (by decide)) rfl ?_
    refine g_sub (L' := [(0, .ref m), (1, .ref (gK (g_E Γ) 3)), (2, .int 0)]) [1, 2, 0] rfl ?_
    exact wX12_spells_s3_2 K hlt hRm hret 1000 o6 o8 0 h

set_option maxRecDepth 100000 in
theorem ctX12_spells_s3 {E : gE} {m : Nat} {r : Nat → Nat} (o : Nat → Int32) (A : Nat → Nat → Int32) {res : Int32 × Int32} (h : pX12_spells_s3 (A 1) (o 7) (o 6) (o 8) = some res) : gMv yX12_spells (.code yX12_spells cX12_spells 3 none :: gU) ({ frames := 10, cells := 0, slots := 0, locals := 400 } : Room) 0 0 E [.ref m, .ref (gK E 3)] (mw E m r o A) (fun w => w = mw E m r (gu (gu o 6 res.1) 8 res.2) A) := by
  refine g_met_v (by decide +kernel) (Nat.le_of_ble_eq_true rfl) (fun Γ K hn hE hRm _ hret => ?_)
  subst hE
  have hlt : ∀ i, i < 3 → i < g_n Γ := fun i q => by rw [hn]; exact q
  refine g_ws (ws' := mw (g_E Γ) m r (gu (gu o 6 (o 6)) 8 (o 8)) A) rfl ?_
  refine g_sub (L' := [(0, .ref m), (1, .ref (gK (g_E Γ) 3))]) [0, 1] rfl ?_
  exact wX12_spells_s3 K hlt hRm hret (o 6) (o 8) h

set_option maxHeartbeats 4000000 in
set_option maxRecDepth 100000 in
theorem wX12_tellsHere_s3 {Γ : gT} {m : Nat} {r : Nat → Nat} {o : Nat → Int32} {A : Nat → Nat → Int32} (K : gOK Γ cX12_tellsHere gU RX12) (hlt : ∀ i, i < 4 → i < g_n Γ) (hRm : g_R Γ = ({ frames := 11, cells := 0, slots := 0, locals := 422 } : Room)) {res : ((Nat → Int32)) × Int32 × Int32} (hret : ∀ (pc : Nat) (L : List (Nat × Value)) (w : va_W), decode cX12_tellsHere pc = .ok (.return_, 1) → (w = mw (g_E Γ) m r (gu (gu o 6 res.2.1) 8 res.2.2) (gu A 1 res.1)) → gGO Γ 0 0 pc L [] w) (a1 : (Nat → Int32)) (o6 : Int32) (o8 : Int32) (x1 : Int32) (h : pX12_tellsHere_s3 (o 5) (o 7) a1 o6 o8 x1 = some res) : gGO Γ 0 0 0 [(0, .ref m), (1, .int x1), (2, .ref (gK (g_E Γ) 3))] [] (mw (g_E Γ) m r (gu (gu o 6 o6) 8 o8) (gu A 1 a1)) := by
    unfold pX12_tellsHere_s3 at h
    refine g_aload_n K dX12_tellsHere_0 rfl 0 rfl ?_
    refine g_aload_n K dX12_tellsHere_1 rfl 2 rfl ?_
    obtain ⟨z_1, hz_1, h⟩ := gi_bd h
    refine g_callVv (As := [.ref (gK (g_E Γ) 3)]) (bytes := cX12_spells) (maxL := 3) (ret := none) K (ctX12_spells_s3 (gu (gu o 6 o6) 8 o8) (gu A 1 a1) (res := z_1) hz_1) gc_V_RX12_110_X12_spells rfl qv_X12_spells 0 rfl rfl rfl hRm rfl rfl rfl (by decide) (Nat.le_of_ble_eq_true rfl) (by decide) dX12_tellsHere_2 (fun w hw => ?_)
    subst hw
    refine g_ws (ws' := mw (g_E Γ) m r (gu (gu o 6 z_1.1) 8 z_1.2) (gu A 1 a1)) rfl ?_
    refine g_aload_n K dX12_tellsHere_5 rfl 0 rfl ?_
    obtain ⟨z_2, hz_2, h⟩ := gi_bd h
    refine g_callVi (As := []) (bytes := cX12_figures) (maxL := 3) (ret := (some .int)) K (ctX12_figures (gu (gu o 6 z_1.1) 8 z_1.2) (gu A 1 a1) (res := z_2) hz_2) gc_V_RX12_104_X12_figures rfl qv_X12_figures 0 rfl rfl rfl hRm rfl rfl rfl (by decide) (Nat.le_of_ble_eq_true rfl) (by decide) dX12_tellsHere_6 (fun v w hw => ?_)
    obtain ⟨hv9, rfl⟩ := hw; have hv9 := hv9.symm; subst hv9
    refine g_ws (ws' := mw (g_E Γ) m r (gu (gu o 6 z_2.2.1) 8 z_2.2.2) (gu A 1 a1)) rfl ?_
    obtain ⟨v_3, ev_3, h⟩ := gi_nm h
    refine g_topi ev_3 ?_
    refine g_istore_n (L' := [(3, .int v_3), (0, .ref m), (1, .int x1), (2, .ref (gK (g_E Γ) 3))]) K dX12_tellsHere_9 rfl (hlt _ (by decide)) rfl ?_
    refine g_aload_n K dX12_tellsHere_10 rfl 1 rfl ?_
    refine mg_8 (v := z_2.2.2) K hin_X12 (u_987) rfl dX12_tellsHere_11 ?_
    obtain ⟨ht9, hf9⟩ := gi_br h; clear h
    refine g_if_ne (tgt := 29) K dX12_tellsHere_14 (by decide) (fun qh => ?_) (fun qh => ?_)
    · have h := hf9 qh; clear ht9 hf9
      obtain rfl := Option.some.inj h
      exact hret _ _ _ dX12_tellsHere_29 rfl
    · have h := ht9 qh; clear ht9 hf9
      refine g_aload_n K dX12_tellsHere_17 rfl 1 rfl ?_
      refine mg_1 K hin_X12 (u_980) dX12_tellsHere_18 ?_
      refine g_iload_n K dX12_tellsHere_21 rfl 2 rfl ?_
      refine g_aload_n K dX12_tellsHere_22 rfl 1 rfl ?_
      refine mg_5 (v := (o 5)) K hin_X12 (u_984) rfl dX12_tellsHere_23 ?_
      refine g_iadd K dX12_tellsHere_26 ?_
      refine g_iload_n K dX12_tellsHere_27 rfl 0 rfl ?_
      obtain ⟨b_4, h⟩ := gi_none h
      obtain ⟨f_5, ef_5, h⟩ := gi_nm h
      refine g_iast (f := a1) (ws' := mw (g_E Γ) m r (gu (gu o 6 z_2.2.1) 8 z_2.2.2) (gu A 1 f_5)) K 1 rfl (ginb_in b_4) dX12_tellsHere_28 (by rw [ef_5]; rfl) ?_
      obtain rfl := Option.some.inj h
      exact hret _ _ _ dX12_tellsHere_29 rfl

set_option maxRecDepth 100000 in
theorem ctX12_tellsHere_s3 {E : gE} {m : Nat} {r : Nat → Nat} (o : Nat → Int32) (A : Nat → Nat → Int32) (x1 : Int32) {res : ((Nat → Int32)) × Int32 × Int32} (h : pX12_tellsHere_s3 (o 5) (o 7) (A 1) (o 6) (o 8) x1 = some res) : gMv yX12_tellsHere (.code yX12_tellsHere cX12_tellsHere 4 none :: gU) ({ frames := 11, cells := 0, slots := 0, locals := 422 } : Room) 0 0 E [.ref m, .int x1, .ref (gK E 3)] (mw E m r o A) (fun w => w = mw E m r (gu (gu o 6 res.2.1) 8 res.2.2) (gu A 1 res.1)) := by
  refine g_met_v (by decide +kernel) (Nat.le_of_ble_eq_true rfl) (fun Γ K hn hE hRm _ hret => ?_)
  subst hE
  have hlt : ∀ i, i < 4 → i < g_n Γ := fun i q => by rw [hn]; exact q
  refine g_ws (ws' := mw (g_E Γ) m r (gu (gu o 6 (o 6)) 8 (o 8)) (gu A 1 (A 1))) rfl ?_
  refine g_sub (L' := [(0, .ref m), (1, .int x1), (2, .ref (gK (g_E Γ) 3))]) [0, 1, 2] rfl ?_
  exact wX12_tellsHere_s3 K hlt hRm hret (A 1) (o 6) (o 8) x1 h

set_option maxHeartbeats 4000000 in
set_option maxRecDepth 100000 in
theorem wX12_spells_s2_2 {Γ : gT} {m : Nat} {r : Nat → Nat} {o : Nat → Int32} {A : Nat → Nat → Int32} (K : gOK Γ cX12_spells gU RX12) (hlt : ∀ i, i < 3 → i < g_n Γ) (hRm : g_R Γ = ({ frames := 10, cells := 0, slots := 0, locals := 400 } : Room)) {res : Int32 × Int32} (hret : ∀ (pc : Nat) (L : List (Nat × Value)) (w : va_W), decode cX12_spells pc = .ok (.return_, 1) → (w = mw (g_E Γ) m r (gu (gu o 6 res.1) 8 res.2) A) → gGO Γ 0 0 pc L [] w) : ∀ (n : Nat) (o6 : Int32) (o8 : Int32) (x2 : Int32), pX12_spells_s2_2 (A 1) (o 7) n o6 o8 x2 = some res → gGO Γ 0 0 2 [(0, .ref m), (1, .ref (gK (g_E Γ) 2)), (2, .int x2)] [] (mw (g_E Γ) m r (gu (gu o 6 o6) 8 o8) A) := by
  intro n
  induction n with
  | zero => intro _ _ _ h; cases h
  | succ n ih =>
    intro o6 o8 x2 h
    simp only [pX12_spells_s2_2] at h
    refine g_iload_n K dX12_spells_2 rfl 2 rfl ?_
    refine g_aload_n K dX12_spells_3 rfl 1 rfl ?_
    obtain ⟨z_1, hz_1, h⟩ := gi_bd h
    refine g_callViK (As := []) (bytes := cJ0_length_8abf5) (maxL := 1) (ret := (some .int)) K (ctJ0_length_8abf5 (ws := mw (g_E Γ) m r (gu (gu o 6 o6) 8 o8) A) (i0 := 2) (by decide) (res := z_1) hz_1) gc_V_RX12_68_J0_length_8abf5 rfl qv_J0_length_8abf5 (by decide) hRm rfl rfl rfl (by decide) (Nat.le_of_ble_eq_true rfl) (by decide) dX12_spells_4 (fun v w hw => ?_)
    obtain ⟨hv9, rfl⟩ := hw; have hv9 := hv9.symm; subst hv9
    obtain ⟨ht9, hf9⟩ := gi_br h; clear h
    refine g_icmp_ge (tgt := 25) K dX12_spells_7 (by decide) (fun qh => ?_) (fun qh => ?_)
    · have h := ht9 qh; clear ht9 hf9
      obtain rfl := Option.some.inj h
      exact hret _ _ _ dX12_spells_25 rfl
    · have h := hf9 qh; clear ht9 hf9
      refine g_aload_n K dX12_spells_10 rfl 0 rfl ?_
      refine g_aload_n K dX12_spells_11 rfl 1 rfl ?_
      refine g_iload_n K dX12_spells_12 rfl 2 rfl ?_
      obtain ⟨z_2, hz_2, h⟩ := gi_bd h
      refine g_callViK (As := [.int x2]) (bytes := cJ0_charAt_5068e) (maxL := 2) (ret := (some .char)) K (ctJ0_charAt_5068e (ws := mw (g_E Γ) m r (gu (gu o 6 o6) 8 o8) A) (i0 := 2) (by decide) x2 (res := z_2) hz_2) gc_V_RX12_73_J0_charAt_5068e rfl qv_J0_charAt_5068e (by decide) hRm rfl rfl rfl (by decide) (Nat.le_of_ble_eq_true rfl) (by decide) dX12_spells_13 (fun v w hw => ?_)
      obtain ⟨hv9, rfl⟩ := hw; have hv9 := hv9.symm; subst hv9
      obtain ⟨z_3, hz_3, h⟩ := gi_bd h
      refine g_callVv (As := [.int z_2]) (bytes := cX12_must) (maxL := 2) (ret := none) K (ctX12_must (gu (gu o 6 o6) 8 o8) A z_2 (res := z_3) hz_3) gc_V_RX12_77_X12_must rfl qv_X12_must 0 rfl rfl rfl hRm rfl rfl rfl (by decide) (Nat.le_of_ble_eq_true rfl) (by decide) dX12_spells_16 (fun w hw => ?_)
      subst hw
      refine g_ws (ws' := mw (g_E Γ) m r (gu (gu o 6 z_3.1) 8 z_3.2) A) rfl ?_
      refine g_iinc (v := (x2 + 1)) (L' := [(2, .int (x2 + 1)), (0, .ref m), (1, .ref (gK (g_E Γ) 2))]) K dX12_spells_19 2 rfl rfl (hlt _ (by decide)) rfl ?_
      refine g_goto (tgt := 2) K dX12_spells_22 (by decide) ?_
      refine g_sub (L' := [(0, .ref m), (1, .ref (gK (g_E Γ) 2)), (2, .int (x2 + 1))]) [1, 2, 0] rfl ?_
      exact ih z_3.1 z_3.2 (x2 + 1) h

set_option maxHeartbeats 4000000 in
set_option maxRecDepth 100000 in
theorem wX12_spells_s2 {Γ : gT} {m : Nat} {r : Nat → Nat} {o : Nat → Int32} {A : Nat → Nat → Int32} (K : gOK Γ cX12_spells gU RX12) (hlt : ∀ i, i < 3 → i < g_n Γ) (hRm : g_R Γ = ({ frames := 10, cells := 0, slots := 0, locals := 400 } : Room)) {res : Int32 × Int32} (hret : ∀ (pc : Nat) (L : List (Nat × Value)) (w : va_W), decode cX12_spells pc = .ok (.return_, 1) → (w = mw (g_E Γ) m r (gu (gu o 6 res.1) 8 res.2) A) → gGO Γ 0 0 pc L [] w) (o6 : Int32) (o8 : Int32) (h : pX12_spells_s2 (A 1) (o 7) o6 o8 = some res) : gGO Γ 0 0 0 [(0, .ref m), (1, .ref (gK (g_E Γ) 2))] [] (mw (g_E Γ) m r (gu (gu o 6 o6) 8 o8) A) := by
    unfold pX12_spells_s2 at h
    refine g_iconst (v := 0) K dX12_spells_0 (by decide) ?_
    refine g_istore_n (L' := [(2, .int 0), (0, .ref m), (1, .ref (gK (g_E Γ) 2))]) K dX12_spells_1 rfl (hlt _ (by decide)) rfl ?_
    refine g_sub (L' := [(0, .ref m), (1, .ref (gK (g_E Γ) 2)), (2, .int 0)]) [1, 2, 0] rfl ?_
    exact wX12_spells_s2_2 K hlt hRm hret 1000 o6 o8 0 h

set_option maxRecDepth 100000 in
theorem ctX12_spells_s2 {E : gE} {m : Nat} {r : Nat → Nat} (o : Nat → Int32) (A : Nat → Nat → Int32) {res : Int32 × Int32} (h : pX12_spells_s2 (A 1) (o 7) (o 6) (o 8) = some res) : gMv yX12_spells (.code yX12_spells cX12_spells 3 none :: gU) ({ frames := 10, cells := 0, slots := 0, locals := 400 } : Room) 0 0 E [.ref m, .ref (gK E 2)] (mw E m r o A) (fun w => w = mw E m r (gu (gu o 6 res.1) 8 res.2) A) := by
  refine g_met_v (by decide +kernel) (Nat.le_of_ble_eq_true rfl) (fun Γ K hn hE hRm _ hret => ?_)
  subst hE
  have hlt : ∀ i, i < 3 → i < g_n Γ := fun i q => by rw [hn]; exact q
  refine g_ws (ws' := mw (g_E Γ) m r (gu (gu o 6 (o 6)) 8 (o 8)) A) rfl ?_
  refine g_sub (L' := [(0, .ref m), (1, .ref (gK (g_E Γ) 2))]) [0, 1] rfl ?_
  exact wX12_spells_s2 K hlt hRm hret (o 6) (o 8) h

set_option maxHeartbeats 4000000 in
set_option maxRecDepth 100000 in
theorem wX12_emits {Γ : gT} {m : Nat} {r : Nat → Nat} {o : Nat → Int32} {A : Nat → Nat → Int32} (K : gOK Γ cX12_emits gU RX12) (hlt : ∀ i, i < 2 → i < g_n Γ) (hRm : g_R Γ = ({ frames := 4, cells := 0, slots := 0, locals := 150 } : Room)) {res : ((Nat → Int32))} (hret : ∀ (pc : Nat) (L : List (Nat × Value)) (w : va_W), decode cX12_emits pc = .ok (.return_, 1) → (w = mw (g_E Γ) m r o (gu A 1 res)) → gGO Γ 0 0 pc L [] w) (a1 : (Nat → Int32)) (x1 : Int32) (h : pX12_emits (o 5) (o 8) a1 x1 = some res) : gGO Γ 0 0 0 [(0, .ref m), (1, .int x1)] [] (mw (g_E Γ) m r o (gu A 1 a1)) := by
    unfold pX12_emits at h
    refine g_aload_n K dX12_emits_0 rfl 0 rfl ?_
    refine mg_8 (v := (o 8)) K hin_X12 (u_987) rfl dX12_emits_1 ?_
    obtain ⟨ht9, hf9⟩ := gi_br h; clear h
    refine g_if_ne (tgt := 56) K dX12_emits_4 (by decide) (fun qh => ?_) (fun qh => ?_)
    · have h := hf9 qh; clear ht9 hf9
      obtain rfl := Option.some.inj h
      exact hret _ _ _ dX12_emits_56 rfl
    · have h := ht9 qh; clear ht9 hf9
      refine g_aload_n K dX12_emits_7 rfl 0 rfl ?_
      refine mg_1 K hin_X12 (u_980) dX12_emits_8 ?_
      refine g_sipush (v := 252) K dX12_emits_11 (by decide) ?_
      refine g_sipush (v := 140) K dX12_emits_14 (by decide) ?_
      refine g_aload_n K dX12_emits_17 rfl 0 rfl ?_
      refine mg_5 (v := (o 5)) K hin_X12 (u_984) rfl dX12_emits_18 ?_
      refine g_imul K dX12_emits_21 ?_
      refine g_iadd K dX12_emits_22 ?_
      refine g_aload_n K dX12_emits_23 rfl 0 rfl ?_
      refine mg_1 K hin_X12 (u_980) dX12_emits_24 ?_
      refine g_sipush (v := 247) K dX12_emits_27 (by decide) ?_
      refine g_aload_n K dX12_emits_30 rfl 0 rfl ?_
      refine mg_5 (v := (o 5)) K hin_X12 (u_984) rfl dX12_emits_31 ?_
      refine g_iadd K dX12_emits_34 ?_
      obtain ⟨b_1, h⟩ := gi_none h
      refine g_iald (f := a1) K 1 rfl (ginb_in b_1) dX12_emits_35 ?_
      refine g_iadd K dX12_emits_36 ?_
      refine g_iload_n K dX12_emits_37 rfl 1 rfl ?_
      obtain ⟨b_2, h⟩ := gi_none h
      obtain ⟨f_3, ef_3, h⟩ := gi_nm h
      refine g_iast (f := a1) (ws' := mw (g_E Γ) m r o (gu A 1 f_3)) K 1 rfl (ginb_in b_2) dX12_emits_38 (by rw [ef_3]; rfl) ?_
      refine g_aload_n K dX12_emits_39 rfl 0 rfl ?_
      refine mg_1 K hin_X12 (u_980) dX12_emits_40 ?_
      refine g_sipush (v := 247) K dX12_emits_43 (by decide) ?_
      refine g_aload_n K dX12_emits_46 rfl 0 rfl ?_
      refine mg_5 (v := (o 5)) K hin_X12 (u_984) rfl dX12_emits_47 ?_
      refine g_iadd K dX12_emits_50 ?_
      refine g_dup2 K dX12_emits_51 rfl rfl ?_
      obtain ⟨b_4, h⟩ := gi_none h
      refine g_iald (f := f_3) K 1 rfl (ginb_in b_4) dX12_emits_52 ?_
      refine g_iconst (v := 1) K dX12_emits_53 (by decide) ?_
      refine g_iadd K dX12_emits_54 ?_
      obtain ⟨b_5, h⟩ := gi_none h
      obtain ⟨f_6, ef_6, h⟩ := gi_nm h
      refine g_iast (f := f_3) (ws' := mw (g_E Γ) m r o (gu A 1 f_6)) K 1 rfl (ginb_in b_5) dX12_emits_55 (by rw [ef_6]; rfl) ?_
      obtain rfl := Option.some.inj h
      exact hret _ _ _ dX12_emits_56 rfl

set_option maxRecDepth 100000 in
theorem ctX12_emits {E : gE} {m : Nat} {r : Nat → Nat} (o : Nat → Int32) (A : Nat → Nat → Int32) (x1 : Int32) {res : ((Nat → Int32))} (h : pX12_emits (o 5) (o 8) (A 1) x1 = some res) : gMv yX12_emits (.code yX12_emits cX12_emits 2 none :: gU) ({ frames := 4, cells := 0, slots := 0, locals := 150 } : Room) 0 0 E [.ref m, .int x1] (mw E m r o A) (fun w => w = mw E m r o (gu A 1 res)) := by
  refine g_met_v (by decide +kernel) (Nat.le_of_ble_eq_true rfl) (fun Γ K hn hE hRm _ hret => ?_)
  subst hE
  have hlt : ∀ i, i < 2 → i < g_n Γ := fun i q => by rw [hn]; exact q
  refine g_ws (ws' := mw (g_E Γ) m r o (gu A 1 (A 1))) rfl ?_
  refine g_sub (L' := [(0, .ref m), (1, .int x1)]) [0, 1] rfl ?_
  exact wX12_emits K hlt hRm hret (A 1) x1 h

set_option maxHeartbeats 4000000 in
set_option maxRecDepth 100000 in
theorem wX12_every_4 {Γ : gT} {m : Nat} {r : Nat → Nat} {o : Nat → Int32} {A : Nat → Nat → Int32} {dd : Nat} {kF : Int32 → Int32 → (Nat → Int32) → Int32 → Int32 → Int32 → Option (((Nat → Int32)) × Int32 × Int32 × Int32)} (hkF : ∀ (o : Nat → Int32) (A : Nat → Nat → Int32) (z : ((Nat → Int32)) × Int32 × Int32 × Int32), kF (o 5) (o 7) (A 1) (o 6) (o 8) (o 9) = some z → gMv yX12_factor (.code yX12_factor cX12_factor 5 none :: gU) ({ frames := 12 + 4 * dd + 0, cells := 0, slots := 0, locals := 400 + 160 * dd + 0 } : Room) 0 0 (g_E Γ) [.ref m] (mw (g_E Γ) m r o A) (fun w => w = mw (g_E Γ) m r (gu (gu (gu o 6 z.2.1) 8 z.2.2.1) 9 z.2.2.2) (gu A 1 z.1))) (K : gOK Γ cX12_every gU RX12) (hlt : ∀ i, i < 1 → i < g_n Γ) (hRm : g_R Γ = ({ frames := 12 + 4 * dd + 1, cells := 0, slots := 0, locals := 400 + 160 * dd + 40 } : Room)) {res : ((Nat → Int32)) × Int32 × Int32 × Int32} (hret : ∀ (pc : Nat) (L : List (Nat × Value)) (w : va_W), decode cX12_every pc = .ok (.return_, 1) → (w = mw (g_E Γ) m r (gu (gu (gu o 6 res.2.1) 8 res.2.2.1) 9 res.2.2.2) (gu A 1 res.1)) → gGO Γ 0 0 pc L [] w) : ∀ (n : Nat) (a1 : (Nat → Int32)) (o6 : Int32) (o8 : Int32) (o9 : Int32), pX12_every_4 kF (o 5) (o 7) n a1 o6 o8 o9 = some res → gGO Γ 0 0 4 [(0, .ref m)] [] (mw (g_E Γ) m r (gu (gu (gu o 6 o6) 8 o8) 9 o9) (gu A 1 a1)) := by
  intro n
  induction n with
  | zero => intro _ _ _ _ h; cases h
  | succ n ih =>
    intro a1 o6 o8 o9 h
    simp only [pX12_every_4] at h
    refine g_aload_n K dX12_every_4 rfl 0 rfl ?_
    refine mg_8 (v := o8) K hin_X12 (u_987) rfl dX12_every_5 ?_
    obtain ⟨ht9, hf9⟩ := gi_br h; clear h
    refine g_if_ne (tgt := 43) K dX12_every_8 (by decide) (fun qh => ?_) (fun qh => ?_)
    · have h := hf9 qh; clear ht9 hf9
      obtain rfl := Option.some.inj h
      exact hret _ _ _ dX12_every_43 rfl
    · have h := ht9 qh; clear ht9 hf9
      refine g_aload_n K dX12_every_11 rfl 0 rfl ?_
      obtain ⟨z_1, hz_1, h⟩ := gi_bd h
      refine g_callVi (As := []) (bytes := cX12_here) (maxL := 1) (ret := (some .int)) K (ctX12_here (gu (gu (gu o 6 o6) 8 o8) 9 o9) (gu A 1 a1) (res := z_1) hz_1) gc_V_RX12_64_X12_here rfl qv_X12_here 0 rfl rfl rfl hRm rfl rfl rfl (by constructor <;> (dsimp only; omega)) (Nat.le_of_ble_eq_true rfl) ⟨Nat.le_refl _, Nat.le_refl _⟩ dX12_every_12 (fun v w hw => ?_)
      obtain ⟨hv9, rfl⟩ := hw; have hv9 := hv9.symm; subst hv9
      refine g_bipush (v := 38) K dX12_every_15 (by decide) ?_
      obtain ⟨ht9, hf9⟩ := gi_br h; clear h
      refine g_icmp_ne (tgt := 43) K dX12_every_17 (by decide) (fun qh => ?_) (fun qh => ?_)
      · have h := hf9 qh; clear ht9 hf9
        obtain rfl := Option.some.inj h
        exact hret _ _ _ dX12_every_43 rfl
      · have h := ht9 qh; clear ht9 hf9
        refine g_aload_n K dX12_every_20 rfl 0 rfl ?_
        refine g_dup K dX12_every_21 rfl ?_
        refine mg_6 (v := o6) K hin_X12 (u_985) rfl dX12_every_22 ?_
        refine g_iconst (v := 1) K dX12_every_25 (by decide) ?_
        refine g_iadd K dX12_every_26 ?_
        refine mp_6 (w' := mw (g_E Γ) m r (gu (gu (gu o 6 (o6 + 1)) 8 o8) 9 o9) (gu A 1 a1)) K hin_X12 (u_985) rfl rfl dX12_every_27 rfl ?_
        refine g_aload_n K dX12_every_30 rfl 0 rfl ?_
        obtain ⟨z_2, hz_2, h⟩ := gi_bd h
        refine g_callVv (As := []) (bytes := cX12_factor) (maxL := 5) (ret := none) K (hkF (gu (gu (gu o 6 (o6 + 1)) 8 o8) 9 o9) (gu A 1 a1) z_2 hz_2) gc_V_RX12_87_X12_factor rfl qv_X12_factor 0 rfl rfl rfl hRm rfl rfl rfl (by constructor <;> (dsimp only; omega)) (Nat.le_of_ble_eq_true rfl) ⟨Nat.le_refl _, Nat.le_refl _⟩ dX12_every_31 (fun w hw => ?_)
        subst hw
        refine g_ws (ws' := mw (g_E Γ) m r (gu (gu (gu o 6 z_2.2.1) 8 z_2.2.2.1) 9 z_2.2.2.2) (gu A 1 z_2.1)) rfl ?_
        refine g_aload_n K dX12_every_34 rfl 0 rfl ?_
        refine g_bipush (v := (-2)) K dX12_every_35 (by decide) ?_
        obtain ⟨z_3, hz_3, h⟩ := gi_bd h
        refine g_callVv (As := [.int (-2)]) (bytes := cX12_emits) (maxL := 2) (ret := none) K (ctX12_emits (gu (gu (gu o 6 z_2.2.1) 8 z_2.2.2.1) 9 z_2.2.2.2) (gu A 1 z_2.1) (-2) (res := z_3) hz_3) gc_V_RX12_90_X12_emits rfl qv_X12_emits 0 rfl rfl rfl hRm rfl rfl rfl (by constructor <;> (dsimp only; omega)) (Nat.le_of_ble_eq_true rfl) ⟨Nat.le_refl _, Nat.le_refl _⟩ dX12_every_37 (fun w hw => ?_)
        subst hw
        refine g_ws (ws' := mw (g_E Γ) m r (gu (gu (gu o 6 z_2.2.1) 8 z_2.2.2.1) 9 z_2.2.2.2) (gu A 1 z_3)) rfl ?_
        refine g_goto (tgt := 4) K dX12_every_40 (by decide) ?_
        exact ih z_3 z_2.2.1 z_2.2.2.1 z_2.2.2.2 h

set_option maxHeartbeats 4000000 in
set_option maxRecDepth 100000 in
theorem wX12_every {Γ : gT} {m : Nat} {r : Nat → Nat} {o : Nat → Int32} {A : Nat → Nat → Int32} {dd : Nat} {kF : Int32 → Int32 → (Nat → Int32) → Int32 → Int32 → Int32 → Option (((Nat → Int32)) × Int32 × Int32 × Int32)} (hkF : ∀ (o : Nat → Int32) (A : Nat → Nat → Int32) (z : ((Nat → Int32)) × Int32 × Int32 × Int32), kF (o 5) (o 7) (A 1) (o 6) (o 8) (o 9) = some z → gMv yX12_factor (.code yX12_factor cX12_factor 5 none :: gU) ({ frames := 12 + 4 * dd + 0, cells := 0, slots := 0, locals := 400 + 160 * dd + 0 } : Room) 0 0 (g_E Γ) [.ref m] (mw (g_E Γ) m r o A) (fun w => w = mw (g_E Γ) m r (gu (gu (gu o 6 z.2.1) 8 z.2.2.1) 9 z.2.2.2) (gu A 1 z.1))) (K : gOK Γ cX12_every gU RX12) (hlt : ∀ i, i < 1 → i < g_n Γ) (hRm : g_R Γ = ({ frames := 12 + 4 * dd + 1, cells := 0, slots := 0, locals := 400 + 160 * dd + 40 } : Room)) {res : ((Nat → Int32)) × Int32 × Int32 × Int32} (hret : ∀ (pc : Nat) (L : List (Nat × Value)) (w : va_W), decode cX12_every pc = .ok (.return_, 1) → (w = mw (g_E Γ) m r (gu (gu (gu o 6 res.2.1) 8 res.2.2.1) 9 res.2.2.2) (gu A 1 res.1)) → gGO Γ 0 0 pc L [] w) (a1 : (Nat → Int32)) (o6 : Int32) (o8 : Int32) (o9 : Int32) (h : pX12_every kF (o 5) (o 7) a1 o6 o8 o9 = some res) : gGO Γ 0 0 0 [(0, .ref m)] [] (mw (g_E Γ) m r (gu (gu (gu o 6 o6) 8 o8) 9 o9) (gu A 1 a1)) := by
    unfold pX12_every at h
    refine g_aload_n K dX12_every_0 rfl 0 rfl ?_
    obtain ⟨z_1, hz_1, h⟩ := gi_bd h
    refine g_callVv (As := []) (bytes := cX12_factor) (maxL := 5) (ret := none) K (hkF (gu (gu (gu o 6 o6) 8 o8) 9 o9) (gu A 1 a1) z_1 hz_1) gc_V_RX12_87_X12_factor rfl qv_X12_factor 0 rfl rfl rfl hRm rfl rfl rfl (by constructor <;> (dsimp only; omega)) (Nat.le_of_ble_eq_true rfl) ⟨Nat.le_refl _, Nat.le_refl _⟩ dX12_every_1 (fun w hw => ?_)
    subst hw
    refine g_ws (ws' := mw (g_E Γ) m r (gu (gu (gu o 6 z_1.2.1) 8 z_1.2.2.1) 9 z_1.2.2.2) (gu A 1 z_1.1)) rfl ?_
    exact wX12_every_4 hkF K hlt hRm hret 1000 z_1.1 z_1.2.1 z_1.2.2.1 z_1.2.2.2 h

set_option maxRecDepth 100000 in
theorem ctX12_every {E : gE} {m : Nat} {r : Nat → Nat} {dd : Nat} {kF : Int32 → Int32 → (Nat → Int32) → Int32 → Int32 → Int32 → Option (((Nat → Int32)) × Int32 × Int32 × Int32)} (hkF : ∀ (o : Nat → Int32) (A : Nat → Nat → Int32) (z : ((Nat → Int32)) × Int32 × Int32 × Int32), kF (o 5) (o 7) (A 1) (o 6) (o 8) (o 9) = some z → gMv yX12_factor (.code yX12_factor cX12_factor 5 none :: gU) ({ frames := 12 + 4 * dd + 0, cells := 0, slots := 0, locals := 400 + 160 * dd + 0 } : Room) 0 0 E [.ref m] (mw E m r o A) (fun w => w = mw E m r (gu (gu (gu o 6 z.2.1) 8 z.2.2.1) 9 z.2.2.2) (gu A 1 z.1))) (o : Nat → Int32) (A : Nat → Nat → Int32) {res : ((Nat → Int32)) × Int32 × Int32 × Int32} (h : pX12_every kF (o 5) (o 7) (A 1) (o 6) (o 8) (o 9) = some res) : gMv yX12_every (.code yX12_every cX12_every 1 none :: gU) ({ frames := 12 + 4 * dd + 1, cells := 0, slots := 0, locals := 400 + 160 * dd + 40 } : Room) 0 0 E [.ref m] (mw E m r o A) (fun w => w = mw E m r (gu (gu (gu o 6 res.2.1) 8 res.2.2.1) 9 res.2.2.2) (gu A 1 res.1)) := by
  refine g_met_v (by decide +kernel) (Nat.le_of_ble_eq_true rfl) (fun Γ K hn hE hRm _ hret => ?_)
  subst hE
  have hlt : ∀ i, i < 1 → i < g_n Γ := fun i q => by rw [hn]; exact q
  refine g_ws (ws' := mw (g_E Γ) m r (gu (gu (gu o 6 (o 6)) 8 (o 8)) 9 (o 9)) (gu A 1 (A 1))) rfl ?_
  refine g_sub (L' := [(0, .ref m)]) [0] rfl ?_
  exact wX12_every hkF K hlt hRm hret (A 1) (o 6) (o 8) (o 9) h

set_option maxHeartbeats 4000000 in
set_option maxRecDepth 100000 in
theorem wX12_some_4 {Γ : gT} {m : Nat} {r : Nat → Nat} {o : Nat → Int32} {A : Nat → Nat → Int32} {dd : Nat} {kF : Int32 → Int32 → (Nat → Int32) → Int32 → Int32 → Int32 → Option (((Nat → Int32)) × Int32 × Int32 × Int32)} (hkF : ∀ (o : Nat → Int32) (A : Nat → Nat → Int32) (z : ((Nat → Int32)) × Int32 × Int32 × Int32), kF (o 5) (o 7) (A 1) (o 6) (o 8) (o 9) = some z → gMv yX12_factor (.code yX12_factor cX12_factor 5 none :: gU) ({ frames := 12 + 4 * dd + 0, cells := 0, slots := 0, locals := 400 + 160 * dd + 0 } : Room) 0 0 (g_E Γ) [.ref m] (mw (g_E Γ) m r o A) (fun w => w = mw (g_E Γ) m r (gu (gu (gu o 6 z.2.1) 8 z.2.2.1) 9 z.2.2.2) (gu A 1 z.1))) (K : gOK Γ cX12_some gU RX12) (hlt : ∀ i, i < 1 → i < g_n Γ) (hRm : g_R Γ = ({ frames := 12 + 4 * dd + 2, cells := 0, slots := 0, locals := 400 + 160 * dd + 80 } : Room)) {res : ((Nat → Int32)) × Int32 × Int32 × Int32} (hret : ∀ (pc : Nat) (L : List (Nat × Value)) (w : va_W), decode cX12_some pc = .ok (.return_, 1) → (w = mw (g_E Γ) m r (gu (gu (gu o 6 res.2.1) 8 res.2.2.1) 9 res.2.2.2) (gu A 1 res.1)) → gGO Γ 0 0 pc L [] w) : ∀ (n : Nat) (a1 : (Nat → Int32)) (o6 : Int32) (o8 : Int32) (o9 : Int32), pX12_some_4 kF (o 5) (o 7) n a1 o6 o8 o9 = some res → gGO Γ 0 0 4 [(0, .ref m)] [] (mw (g_E Γ) m r (gu (gu (gu o 6 o6) 8 o8) 9 o9) (gu A 1 a1)) := by
  intro n
  induction n with
  | zero => intro _ _ _ _ h; cases h
  | succ n ih =>
    intro a1 o6 o8 o9 h
    simp only [pX12_some_4] at h
    refine g_aload_n K dX12_some_4 rfl 0 rfl ?_
    refine mg_8 (v := o8) K hin_X12 (u_987) rfl dX12_some_5 ?_
    obtain ⟨ht9, hf9⟩ := gi_br h; clear h
    refine g_if_ne (tgt := 43) K dX12_some_8 (by decide) (fun qh => ?_) (fun qh => ?_)
    · have h := hf9 qh; clear ht9 hf9
      obtain rfl := Option.some.inj h
      exact hret _ _ _ dX12_some_43 rfl
    · have h := ht9 qh; clear ht9 hf9
      refine g_aload_n K dX12_some_11 rfl 0 rfl ?_
      obtain ⟨z_1, hz_1, h⟩ := gi_bd h
      refine g_callVi (As := []) (bytes := cX12_here) (maxL := 1) (ret := (some .int)) K (ctX12_here (gu (gu (gu o 6 o6) 8 o8) 9 o9) (gu A 1 a1) (res := z_1) hz_1) gc_V_RX12_64_X12_here rfl qv_X12_here 0 rfl rfl rfl hRm rfl rfl rfl (by constructor <;> (dsimp only; omega)) (Nat.le_of_ble_eq_true rfl) ⟨Nat.le_refl _, Nat.le_refl _⟩ dX12_some_12 (fun v w hw => ?_)
      obtain ⟨hv9, rfl⟩ := hw; have hv9 := hv9.symm; subst hv9
      refine g_bipush (v := 124) K dX12_some_15 (by decide) ?_
      obtain ⟨ht9, hf9⟩ := gi_br h; clear h
      refine g_icmp_ne (tgt := 43) K dX12_some_17 (by decide) (fun qh => ?_) (fun qh => ?_)
      · have h := hf9 qh; clear ht9 hf9
        obtain rfl := Option.some.inj h
        exact hret _ _ _ dX12_some_43 rfl
      · have h := ht9 qh; clear ht9 hf9
        refine g_aload_n K dX12_some_20 rfl 0 rfl ?_
        refine g_dup K dX12_some_21 rfl ?_
        refine mg_6 (v := o6) K hin_X12 (u_985) rfl dX12_some_22 ?_
        refine g_iconst (v := 1) K dX12_some_25 (by decide) ?_
        refine g_iadd K dX12_some_26 ?_
        refine mp_6 (w' := mw (g_E Γ) m r (gu (gu (gu o 6 (o6 + 1)) 8 o8) 9 o9) (gu A 1 a1)) K hin_X12 (u_985) rfl rfl dX12_some_27 rfl ?_
        refine g_aload_n K dX12_some_30 rfl 0 rfl ?_
        obtain ⟨z_2, hz_2, h⟩ := gi_bd h
        refine g_callVv (As := []) (bytes := cX12_every) (maxL := 1) (ret := none) K (ctX12_every (dd := dd) hkF (gu (gu (gu o 6 (o6 + 1)) 8 o8) 9 o9) (gu A 1 a1) (res := z_2) hz_2) gc_V_RX12_107_X12_every rfl qv_X12_every 0 rfl rfl rfl hRm rfl rfl rfl (by constructor <;> (dsimp only; omega)) (Nat.le_of_ble_eq_true rfl) ⟨Nat.le_refl _, Nat.le_refl _⟩ dX12_some_31 (fun w hw => ?_)
        subst hw
        refine g_ws (ws' := mw (g_E Γ) m r (gu (gu (gu o 6 z_2.2.1) 8 z_2.2.2.1) 9 z_2.2.2.2) (gu A 1 z_2.1)) rfl ?_
        refine g_aload_n K dX12_some_34 rfl 0 rfl ?_
        refine g_bipush (v := (-3)) K dX12_some_35 (by decide) ?_
        obtain ⟨z_3, hz_3, h⟩ := gi_bd h
        refine g_callVv (As := [.int (-3)]) (bytes := cX12_emits) (maxL := 2) (ret := none) K (ctX12_emits (gu (gu (gu o 6 z_2.2.1) 8 z_2.2.2.1) 9 z_2.2.2.2) (gu A 1 z_2.1) (-3) (res := z_3) hz_3) gc_V_RX12_90_X12_emits rfl qv_X12_emits 0 rfl rfl rfl hRm rfl rfl rfl (by constructor <;> (dsimp only; omega)) (Nat.le_of_ble_eq_true rfl) ⟨Nat.le_refl _, Nat.le_refl _⟩ dX12_some_37 (fun w hw => ?_)
        subst hw
        refine g_ws (ws' := mw (g_E Γ) m r (gu (gu (gu o 6 z_2.2.1) 8 z_2.2.2.1) 9 z_2.2.2.2) (gu A 1 z_3)) rfl ?_
        refine g_goto (tgt := 4) K dX12_some_40 (by decide) ?_
        exact ih z_3 z_2.2.1 z_2.2.2.1 z_2.2.2.2 h

set_option maxHeartbeats 4000000 in
set_option maxRecDepth 100000 in
theorem wX12_some {Γ : gT} {m : Nat} {r : Nat → Nat} {o : Nat → Int32} {A : Nat → Nat → Int32} {dd : Nat} {kF : Int32 → Int32 → (Nat → Int32) → Int32 → Int32 → Int32 → Option (((Nat → Int32)) × Int32 × Int32 × Int32)} (hkF : ∀ (o : Nat → Int32) (A : Nat → Nat → Int32) (z : ((Nat → Int32)) × Int32 × Int32 × Int32), kF (o 5) (o 7) (A 1) (o 6) (o 8) (o 9) = some z → gMv yX12_factor (.code yX12_factor cX12_factor 5 none :: gU) ({ frames := 12 + 4 * dd + 0, cells := 0, slots := 0, locals := 400 + 160 * dd + 0 } : Room) 0 0 (g_E Γ) [.ref m] (mw (g_E Γ) m r o A) (fun w => w = mw (g_E Γ) m r (gu (gu (gu o 6 z.2.1) 8 z.2.2.1) 9 z.2.2.2) (gu A 1 z.1))) (K : gOK Γ cX12_some gU RX12) (hlt : ∀ i, i < 1 → i < g_n Γ) (hRm : g_R Γ = ({ frames := 12 + 4 * dd + 2, cells := 0, slots := 0, locals := 400 + 160 * dd + 80 } : Room)) {res : ((Nat → Int32)) × Int32 × Int32 × Int32} (hret : ∀ (pc : Nat) (L : List (Nat × Value)) (w : va_W), decode cX12_some pc = .ok (.return_, 1) → (w = mw (g_E Γ) m r (gu (gu (gu o 6 res.2.1) 8 res.2.2.1) 9 res.2.2.2) (gu A 1 res.1)) → gGO Γ 0 0 pc L [] w) (a1 : (Nat → Int32)) (o6 : Int32) (o8 : Int32) (o9 : Int32) (h : pX12_some kF (o 5) (o 7) a1 o6 o8 o9 = some res) : gGO Γ 0 0 0 [(0, .ref m)] [] (mw (g_E Γ) m r (gu (gu (gu o 6 o6) 8 o8) 9 o9) (gu A 1 a1)) := by
    unfold pX12_some at h
    refine g_aload_n K dX12_some_0 rfl 0 rfl ?_
    obtain ⟨z_1, hz_1, h⟩ := gi_bd h
    refine g_callVv (As := []) (bytes := cX12_every) (maxL := 1) (ret := none) K (ctX12_every (dd := dd) hkF (gu (gu (gu o 6 o6) 8 o8) 9 o9) (gu A 1 a1) (res := z_1) hz_1) gc_V_RX12_107_X12_every rfl qv_X12_every 0 rfl rfl rfl hRm rfl rfl rfl (by constructor <;> (dsimp only; omega)) (Nat.le_of_ble_eq_true rfl) ⟨Nat.le_refl _, Nat.le_refl _⟩ dX12_some_1 (fun w hw => ?_)
    subst hw
    refine g_ws (ws' := mw (g_E Γ) m r (gu (gu (gu o 6 z_1.2.1) 8 z_1.2.2.1) 9 z_1.2.2.2) (gu A 1 z_1.1)) rfl ?_
    exact wX12_some_4 hkF K hlt hRm hret 1000 z_1.1 z_1.2.1 z_1.2.2.1 z_1.2.2.2 h

set_option maxRecDepth 100000 in
theorem ctX12_some {E : gE} {m : Nat} {r : Nat → Nat} {dd : Nat} {kF : Int32 → Int32 → (Nat → Int32) → Int32 → Int32 → Int32 → Option (((Nat → Int32)) × Int32 × Int32 × Int32)} (hkF : ∀ (o : Nat → Int32) (A : Nat → Nat → Int32) (z : ((Nat → Int32)) × Int32 × Int32 × Int32), kF (o 5) (o 7) (A 1) (o 6) (o 8) (o 9) = some z → gMv yX12_factor (.code yX12_factor cX12_factor 5 none :: gU) ({ frames := 12 + 4 * dd + 0, cells := 0, slots := 0, locals := 400 + 160 * dd + 0 } : Room) 0 0 E [.ref m] (mw E m r o A) (fun w => w = mw E m r (gu (gu (gu o 6 z.2.1) 8 z.2.2.1) 9 z.2.2.2) (gu A 1 z.1))) (o : Nat → Int32) (A : Nat → Nat → Int32) {res : ((Nat → Int32)) × Int32 × Int32 × Int32} (h : pX12_some kF (o 5) (o 7) (A 1) (o 6) (o 8) (o 9) = some res) : gMv yX12_some (.code yX12_some cX12_some 1 none :: gU) ({ frames := 12 + 4 * dd + 2, cells := 0, slots := 0, locals := 400 + 160 * dd + 80 } : Room) 0 0 E [.ref m] (mw E m r o A) (fun w => w = mw E m r (gu (gu (gu o 6 res.2.1) 8 res.2.2.1) 9 res.2.2.2) (gu A 1 res.1)) := by
  refine g_met_v (by decide +kernel) (Nat.le_of_ble_eq_true rfl) (fun Γ K hn hE hRm _ hret => ?_)
  subst hE
  have hlt : ∀ i, i < 1 → i < g_n Γ := fun i q => by rw [hn]; exact q
  refine g_ws (ws' := mw (g_E Γ) m r (gu (gu (gu o 6 (o 6)) 8 (o 8)) 9 (o 9)) (gu A 1 (A 1))) rfl ?_
  refine g_sub (L' := [(0, .ref m)]) [0] rfl ?_
  exact wX12_some hkF K hlt hRm hret (A 1) (o 6) (o 8) (o 9) h

set_option maxHeartbeats 4000000 in
set_option maxRecDepth 100000 in
theorem wX12_among_s1_2 {Γ : gT} {m : Nat} {r : Nat → Nat} {o : Nat → Int32} {A : Nat → Nat → Int32} (K : gOK Γ cX12_among gU RX12) (hlt : ∀ i, i < 3 → i < g_n Γ) (hRm : g_R Γ = ({ frames := 10, cells := 0, slots := 0, locals := 400 } : Room)) {res : Int32 × Int32} (hret : ∀ (pc : Nat) (L : List (Nat × Value)) (v : Int32) (w : va_W), decode cX12_among pc = .ok (.ireturn, 1) → narrow .int (.int v) = .int v → (v = res.1 ∧ w = mw (g_E Γ) m r (gu o 6 res.2) A) → gGO Γ 0 0 pc L [.int v] w) : ∀ (n : Nat) (o6 : Int32) (x2 : Int32), pX12_among_s1_2 (A 1) (o 7) n o6 x2 = some res → gGO Γ 0 0 2 [(0, .ref m), (1, .ref (gK (g_E Γ) 1)), (2, .int x2)] [] (mw (g_E Γ) m r (gu o 6 o6) A) := by
  intro n
  induction n with
  | zero => intro _ _ h; cases h
  | succ n ih =>
    intro o6 x2 h
    simp only [pX12_among_s1_2] at h
    refine g_iload_n K dX12_among_2 rfl 2 rfl ?_
    refine g_aload_n K dX12_among_3 rfl 1 rfl ?_
    obtain ⟨z_1, hz_1, h⟩ := gi_bd h
    refine g_callViK (As := []) (bytes := cJ0_length_8abf5) (maxL := 1) (ret := (some .int)) K (ctJ0_length_8abf5 (ws := mw (g_E Γ) m r (gu o 6 o6) A) (i0 := 1) (by decide) (res := z_1) hz_1) gc_V_RX12_68_J0_length_8abf5 rfl qv_J0_length_8abf5 (by decide) hRm rfl rfl rfl (by decide) (Nat.le_of_ble_eq_true rfl) (by decide) dX12_among_4 (fun v w hw => ?_)
    obtain ⟨hv9, rfl⟩ := hw; have hv9 := hv9.symm; subst hv9
    obtain ⟨ht9, hf9⟩ := gi_br h; clear h
    refine g_icmp_ge (tgt := 40) K dX12_among_7 (by decide) (fun qh => ?_) (fun qh => ?_)
    · have h := ht9 qh; clear ht9 hf9
      refine g_iconst (v := (-1)) K dX12_among_40 (by decide) ?_
      obtain rfl := Option.some.inj h
      exact hret _ _ _ _ dX12_among_41 rfl ⟨rfl, rfl⟩
    · have h := hf9 qh; clear ht9 hf9
      refine g_aload_n K dX12_among_10 rfl 0 rfl ?_
      obtain ⟨z_2, hz_2, h⟩ := gi_bd h
      refine g_callVi (As := []) (bytes := cX12_here) (maxL := 1) (ret := (some .int)) K (ctX12_here (gu o 6 o6) A (res := z_2) hz_2) gc_V_RX12_64_X12_here rfl qv_X12_here 0 rfl rfl rfl hRm rfl rfl rfl (by decide) (Nat.le_of_ble_eq_true rfl) (by decide) dX12_among_11 (fun v w hw => ?_)
      obtain ⟨hv9, rfl⟩ := hw; have hv9 := hv9.symm; subst hv9
      refine g_aload_n K dX12_among_14 rfl 1 rfl ?_
      refine g_iload_n K dX12_among_15 rfl 2 rfl ?_
      obtain ⟨z_3, hz_3, h⟩ := gi_bd h
      refine g_callViK (As := [.int x2]) (bytes := cJ0_charAt_5068e) (maxL := 2) (ret := (some .char)) K (ctJ0_charAt_5068e (ws := mw (g_E Γ) m r (gu o 6 o6) A) (i0 := 1) (by decide) x2 (res := z_3) hz_3) gc_V_RX12_73_J0_charAt_5068e rfl qv_J0_charAt_5068e (by decide) hRm rfl rfl rfl (by decide) (Nat.le_of_ble_eq_true rfl) (by decide) dX12_among_16 (fun v w hw => ?_)
      obtain ⟨hv9, rfl⟩ := hw; have hv9 := hv9.symm; subst hv9
      obtain ⟨ht9, hf9⟩ := gi_br h; clear h
      refine g_icmp_ne (tgt := 34) K dX12_among_19 (by decide) (fun qh => ?_) (fun qh => ?_)
      · have h := hf9 qh; clear ht9 hf9
        refine g_iinc (v := (x2 + 1)) (L' := [(2, .int (x2 + 1)), (0, .ref m), (1, .ref (gK (g_E Γ) 1))]) K dX12_among_34 2 rfl rfl (hlt _ (by decide)) rfl ?_
        refine g_goto (tgt := 2) K dX12_among_37 (by decide) ?_
        refine g_sub (L' := [(0, .ref m), (1, .ref (gK (g_E Γ) 1)), (2, .int (x2 + 1))]) [1, 2, 0] rfl ?_
        exact ih o6 (x2 + 1) h
      · have h := ht9 qh; clear ht9 hf9
        refine g_aload_n K dX12_among_22 rfl 0 rfl ?_
        refine g_dup K dX12_among_23 rfl ?_
        refine mg_6 (v := o6) K hin_X12 (u_985) rfl dX12_among_24 ?_
        refine g_iconst (v := 1) K dX12_among_27 (by decide) ?_
        refine g_iadd K dX12_among_28 ?_
        refine mp_6 (w' := mw (g_E Γ) m r (gu o 6 (o6 + 1)) A) K hin_X12 (u_985) rfl rfl dX12_among_29 rfl ?_
        refine g_iload_n K dX12_among_32 rfl 2 rfl ?_
        obtain rfl := Option.some.inj h
        exact hret _ _ _ _ dX12_among_33 rfl ⟨rfl, rfl⟩

set_option maxHeartbeats 4000000 in
set_option maxRecDepth 100000 in
theorem wX12_among_s1 {Γ : gT} {m : Nat} {r : Nat → Nat} {o : Nat → Int32} {A : Nat → Nat → Int32} (K : gOK Γ cX12_among gU RX12) (hlt : ∀ i, i < 3 → i < g_n Γ) (hRm : g_R Γ = ({ frames := 10, cells := 0, slots := 0, locals := 400 } : Room)) {res : Int32 × Int32} (hret : ∀ (pc : Nat) (L : List (Nat × Value)) (v : Int32) (w : va_W), decode cX12_among pc = .ok (.ireturn, 1) → narrow .int (.int v) = .int v → (v = res.1 ∧ w = mw (g_E Γ) m r (gu o 6 res.2) A) → gGO Γ 0 0 pc L [.int v] w) (o6 : Int32) (h : pX12_among_s1 (A 1) (o 7) o6 = some res) : gGO Γ 0 0 0 [(0, .ref m), (1, .ref (gK (g_E Γ) 1))] [] (mw (g_E Γ) m r (gu o 6 o6) A) := by
    unfold pX12_among_s1 at h
    refine g_iconst (v := 0) K dX12_among_0 (by decide) ?_
    refine g_istore_n (L' := [(2, .int 0), (0, .ref m), (1, .ref (gK (g_E Γ) 1))]) K dX12_among_1 rfl (hlt _ (by decide)) rfl ?_
    refine g_sub (L' := [(0, .ref m), (1, .ref (gK (g_E Γ) 1)), (2, .int 0)]) [1, 2, 0] rfl ?_
    exact wX12_among_s1_2 K hlt hRm hret 1000 o6 0 h

set_option maxRecDepth 100000 in
theorem ctX12_among_s1 {E : gE} {m : Nat} {r : Nat → Nat} (o : Nat → Int32) (A : Nat → Nat → Int32) {res : Int32 × Int32} (h : pX12_among_s1 (A 1) (o 7) (o 6) = some res) : gMi yX12_among (.code yX12_among cX12_among 3 (some .int) :: gU) ({ frames := 10, cells := 0, slots := 0, locals := 400 } : Room) 0 0 E [.ref m, .ref (gK E 1)] (mw E m r o A) (fun v w => v = res.1 ∧ w = mw E m r (gu o 6 res.2) A) := by
  refine g_met_i (by decide +kernel) (Nat.le_of_ble_eq_true rfl) (fun Γ K hn hE hRm _ hret => ?_)
  subst hE
  have hlt : ∀ i, i < 3 → i < g_n Γ := fun i q => by rw [hn]; exact q
  refine g_ws (ws' := mw (g_E Γ) m r (gu o 6 (o 6)) A) rfl ?_
  refine g_sub (L' := [(0, .ref m), (1, .ref (gK (g_E Γ) 1))]) [0, 1] rfl ?_
  exact wX12_among_s1 K hlt hRm hret (o 6) h

set_option maxHeartbeats 4000000 in
set_option maxRecDepth 100000 in
theorem wX12_among_s6_2 {Γ : gT} {m : Nat} {r : Nat → Nat} {o : Nat → Int32} {A : Nat → Nat → Int32} (K : gOK Γ cX12_among gU RX12) (hlt : ∀ i, i < 3 → i < g_n Γ) (hRm : g_R Γ = ({ frames := 10, cells := 0, slots := 0, locals := 400 } : Room)) {res : Int32 × Int32} (hret : ∀ (pc : Nat) (L : List (Nat × Value)) (v : Int32) (w : va_W), decode cX12_among pc = .ok (.ireturn, 1) → narrow .int (.int v) = .int v → (v = res.1 ∧ w = mw (g_E Γ) m r (gu o 6 res.2) A) → gGO Γ 0 0 pc L [.int v] w) : ∀ (n : Nat) (o6 : Int32) (x2 : Int32), pX12_among_s6_2 (A 1) (o 7) n o6 x2 = some res → gGO Γ 0 0 2 [(0, .ref m), (1, .ref (gK (g_E Γ) 6)), (2, .int x2)] [] (mw (g_E Γ) m r (gu o 6 o6) A) := by
  intro n
  induction n with
  | zero => intro _ _ h; cases h
  | succ n ih =>
    intro o6 x2 h
    simp only [pX12_among_s6_2] at h
    refine g_iload_n K dX12_among_2 rfl 2 rfl ?_
    refine g_aload_n K dX12_among_3 rfl 1 rfl ?_
    obtain ⟨z_1, hz_1, h⟩ := gi_bd h
    refine g_callViK (As := []) (bytes := cJ0_length_8abf5) (maxL := 1) (ret := (some .int)) K (ctJ0_length_8abf5 (ws := mw (g_E Γ) m r (gu o 6 o6) A) (i0 := 6) (by decide) (res := z_1) hz_1) gc_V_RX12_68_J0_length_8abf5 rfl qv_J0_length_8abf5 (by decide) hRm rfl rfl rfl (by decide) (Nat.le_of_ble_eq_true rfl) (by decide) dX12_among_4 (fun v w hw => ?_)
    obtain ⟨hv9, rfl⟩ := hw; have hv9 := hv9.symm; subst hv9
    obtain ⟨ht9, hf9⟩ := gi_br h; clear h
    refine g_icmp_ge (tgt := 40) K dX12_among_7 (by decide) (fun qh => ?_) (fun qh => ?_)
    · have h := ht9 qh; clear ht9 hf9
      refine g_iconst (v := (-1)) K dX12_among_40 (by decide) ?_
      obtain rfl := Option.some.inj h
      exact hret _ _ _ _ dX12_among_41 rfl ⟨rfl, rfl⟩
    · have h := hf9 qh; clear ht9 hf9
      refine g_aload_n K dX12_among_10 rfl 0 rfl ?_
      obtain ⟨z_2, hz_2, h⟩ := gi_bd h
      refine g_callVi (As := []) (bytes := cX12_here) (maxL := 1) (ret := (some .int)) K (ctX12_here (gu o 6 o6) A (res := z_2) hz_2) gc_V_RX12_64_X12_here rfl qv_X12_here 0 rfl rfl rfl hRm rfl rfl rfl (by decide) (Nat.le_of_ble_eq_true rfl) (by decide) dX12_among_11 (fun v w hw => ?_)
      obtain ⟨hv9, rfl⟩ := hw; have hv9 := hv9.symm; subst hv9
      refine g_aload_n K dX12_among_14 rfl 1 rfl ?_
      refine g_iload_n K dX12_among_15 rfl 2 rfl ?_
      obtain ⟨z_3, hz_3, h⟩ := gi_bd h
      refine g_callViK (As := [.int x2]) (bytes := cJ0_charAt_5068e) (maxL := 2) (ret := (some .char)) K (ctJ0_charAt_5068e (ws := mw (g_E Γ) m r (gu o 6 o6) A) (i0 := 6) (by decide) x2 (res := z_3) hz_3) gc_V_RX12_73_J0_charAt_5068e rfl qv_J0_charAt_5068e (by decide) hRm rfl rfl rfl (by decide) (Nat.le_of_ble_eq_true rfl) (by decide) dX12_among_16 (fun v w hw => ?_)
      obtain ⟨hv9, rfl⟩ := hw; have hv9 := hv9.symm; subst hv9
      obtain ⟨ht9, hf9⟩ := gi_br h; clear h
      refine g_icmp_ne (tgt := 34) K dX12_among_19 (by decide) (fun qh => ?_) (fun qh => ?_)
      · have h := hf9 qh; clear ht9 hf9
        refine g_iinc (v := (x2 + 1)) (L' := [(2, .int (x2 + 1)), (0, .ref m), (1, .ref (gK (g_E Γ) 6))]) K dX12_among_34 2 rfl rfl (hlt _ (by decide)) rfl ?_
        refine g_goto (tgt := 2) K dX12_among_37 (by decide) ?_
        refine g_sub (L' := [(0, .ref m), (1, .ref (gK (g_E Γ) 6)), (2, .int (x2 + 1))]) [1, 2, 0] rfl ?_
        exact ih o6 (x2 + 1) h
      · have h := ht9 qh; clear ht9 hf9
        refine g_aload_n K dX12_among_22 rfl 0 rfl ?_
        refine g_dup K dX12_among_23 rfl ?_
        refine mg_6 (v := o6) K hin_X12 (u_985) rfl dX12_among_24 ?_
        refine g_iconst (v := 1) K dX12_among_27 (by decide) ?_
        refine g_iadd K dX12_among_28 ?_
        refine mp_6 (w' := mw (g_E Γ) m r (gu o 6 (o6 + 1)) A) K hin_X12 (u_985) rfl rfl dX12_among_29 rfl ?_
        refine g_iload_n K dX12_among_32 rfl 2 rfl ?_
        obtain rfl := Option.some.inj h
        exact hret _ _ _ _ dX12_among_33 rfl ⟨rfl, rfl⟩

set_option maxHeartbeats 4000000 in
set_option maxRecDepth 100000 in
theorem wX12_among_s6 {Γ : gT} {m : Nat} {r : Nat → Nat} {o : Nat → Int32} {A : Nat → Nat → Int32} (K : gOK Γ cX12_among gU RX12) (hlt : ∀ i, i < 3 → i < g_n Γ) (hRm : g_R Γ = ({ frames := 10, cells := 0, slots := 0, locals := 400 } : Room)) {res : Int32 × Int32} (hret : ∀ (pc : Nat) (L : List (Nat × Value)) (v : Int32) (w : va_W), decode cX12_among pc = .ok (.ireturn, 1) → narrow .int (.int v) = .int v → (v = res.1 ∧ w = mw (g_E Γ) m r (gu o 6 res.2) A) → gGO Γ 0 0 pc L [.int v] w) (o6 : Int32) (h : pX12_among_s6 (A 1) (o 7) o6 = some res) : gGO Γ 0 0 0 [(0, .ref m), (1, .ref (gK (g_E Γ) 6))] [] (mw (g_E Γ) m r (gu o 6 o6) A) := by
    unfold pX12_among_s6 at h
    refine g_iconst (v := 0) K dX12_among_0 (by decide) ?_
    refine g_istore_n (L' := [(2, .int 0), (0, .ref m), (1, .ref (gK (g_E Γ) 6))]) K dX12_among_1 rfl (hlt _ (by decide)) rfl ?_
    refine g_sub (L' := [(0, .ref m), (1, .ref (gK (g_E Γ) 6)), (2, .int 0)]) [1, 2, 0] rfl ?_
    exact wX12_among_s6_2 K hlt hRm hret 1000 o6 0 h

set_option maxRecDepth 100000 in
theorem ctX12_among_s6 {E : gE} {m : Nat} {r : Nat → Nat} (o : Nat → Int32) (A : Nat → Nat → Int32) {res : Int32 × Int32} (h : pX12_among_s6 (A 1) (o 7) (o 6) = some res) : gMi yX12_among (.code yX12_among cX12_among 3 (some .int) :: gU) ({ frames := 10, cells := 0, slots := 0, locals := 400 } : Room) 0 0 E [.ref m, .ref (gK E 6)] (mw E m r o A) (fun v w => v = res.1 ∧ w = mw E m r (gu o 6 res.2) A) := by
  refine g_met_i (by decide +kernel) (Nat.le_of_ble_eq_true rfl) (fun Γ K hn hE hRm _ hret => ?_)
  subst hE
  have hlt : ∀ i, i < 3 → i < g_n Γ := fun i q => by rw [hn]; exact q
  refine g_ws (ws' := mw (g_E Γ) m r (gu o 6 (o 6)) A) rfl ?_
  refine g_sub (L' := [(0, .ref m), (1, .ref (gK (g_E Γ) 6))]) [0, 1] rfl ?_
  exact wX12_among_s6 K hlt hRm hret (o 6) h

set_option maxHeartbeats 4000000 in
set_option maxRecDepth 100000 in
theorem wX12_factorB_69 {Γ : gT} {m : Nat} {r : Nat → Nat} {o : Nat → Int32} {A : Nat → Nat → Int32} {dd : Nat} {kF : Int32 → Int32 → (Nat → Int32) → Int32 → Int32 → Int32 → Option (((Nat → Int32)) × Int32 × Int32 × Int32)} (hkF : ∀ (o : Nat → Int32) (A : Nat → Nat → Int32) (z : ((Nat → Int32)) × Int32 × Int32 × Int32), kF (o 5) (o 7) (A 1) (o 6) (o 8) (o 9) = some z → gMv yX12_factor (.code yX12_factor cX12_factor 5 none :: gU) ({ frames := 12 + 4 * dd + 0, cells := 0, slots := 0, locals := 400 + 160 * dd + 0 } : Room) 0 0 (g_E Γ) [.ref m] (mw (g_E Γ) m r o A) (fun w => w = mw (g_E Γ) m r (gu (gu (gu o 6 z.2.1) 8 z.2.2.1) 9 z.2.2.2) (gu A 1 z.1))) (K : gOK Γ cX12_factor gU RX12) (hlt : ∀ i, i < 5 → i < g_n Γ) (hRm : g_R Γ = ({ frames := 12 + 4 * dd + 4, cells := 0, slots := 0, locals := 400 + 160 * dd + 160 } : Room)) {res : ((Nat → Int32)) × Int32 × Int32 × Int32} (hret : ∀ (pc : Nat) (L : List (Nat × Value)) (w : va_W), decode cX12_factor pc = .ok (.return_, 1) → (w = mw (g_E Γ) m r (gu (gu (gu o 6 res.2.1) 8 res.2.2.1) 9 res.2.2.2) (gu A 1 res.1)) → gGO Γ 0 0 pc L [] w) (a1 : (Nat → Int32)) (o6 : Int32) (o8 : Int32) (o9 : Int32) (x1 : Int32) (y1 : Int32) (y2 : Int32) (h : pX12_factorB_69 kF (o 5) (o 7) a1 o6 o8 o9 x1 y1 y2 = some res) : gGO Γ 0 0 69 [(0, .ref m), (1, .int x1)] [.int y2, .int y1, .ref m] (mw (g_E Γ) m r (gu (gu (gu o 6 o6) 8 o8) 9 o9) (gu A 1 a1)) := by
    unfold pX12_factorB_69 at h
    refine g_iadd K dX12_factor_69 ?_
    refine mp_6 (w' := mw (g_E Γ) m r (gu (gu (gu o 6 (y1 + y2)) 8 o8) 9 o9) (gu A 1 a1)) K hin_X12 (u_985) rfl rfl dX12_factor_70 rfl ?_
    refine g_iload_n K dX12_factor_73 rfl 1 rfl ?_
    refine g_bipush (v := 33) K dX12_factor_74 (by decide) ?_
    obtain ⟨ht9, hf9⟩ := gi_br h; clear h
    refine g_icmp_ne (tgt := 91) K dX12_factor_76 (by decide) (fun qh => ?_) (fun qh => ?_)
    · have h := hf9 qh; clear ht9 hf9
      refine g_aload_n K dX12_factor_91 rfl 0 rfl ?_
      obtain ⟨z_1, hz_1, h⟩ := gi_bd h
      refine g_callVv (As := []) (bytes := cX12_some) (maxL := 1) (ret := none) K (ctX12_some (dd := dd) hkF (gu (gu (gu o 6 (y1 + y2)) 8 o8) 9 o9) (gu A 1 a1) (res := z_1) hz_1) gc_V_RX12_93_X12_some rfl qv_X12_some 0 rfl rfl rfl hRm rfl rfl rfl (by constructor <;> (dsimp only; omega)) (Nat.le_of_ble_eq_true rfl) ⟨Nat.le_refl _, Nat.le_refl _⟩ dX12_factor_92 (fun w hw => ?_)
      subst hw
      refine g_ws (ws' := mw (g_E Γ) m r (gu (gu (gu o 6 z_1.2.1) 8 z_1.2.2.1) 9 z_1.2.2.2) (gu A 1 z_1.1)) rfl ?_
      refine g_aload_n K dX12_factor_95 rfl 0 rfl ?_
      refine g_bipush (v := 41) K dX12_factor_96 (by decide) ?_
      obtain ⟨z_2, hz_2, h⟩ := gi_bd h
      refine g_callVv (As := [.int 41]) (bytes := cX12_must) (maxL := 2) (ret := none) K (ctX12_must (gu (gu (gu o 6 z_1.2.1) 8 z_1.2.2.1) 9 z_1.2.2.2) (gu A 1 z_1.1) 41 (res := z_2) hz_2) gc_V_RX12_77_X12_must rfl qv_X12_must 0 rfl rfl rfl hRm rfl rfl rfl (by constructor <;> (dsimp only; omega)) (Nat.le_of_ble_eq_true rfl) ⟨Nat.le_refl _, Nat.le_refl _⟩ dX12_factor_98 (fun w hw => ?_)
      subst hw
      refine g_ws (ws' := mw (g_E Γ) m r (gu (gu (gu o 6 z_2.1) 8 z_2.2) 9 z_1.2.2.2) (gu A 1 z_1.1)) rfl ?_
      refine g_aload_n K dX12_factor_101 rfl 0 rfl ?_
      refine g_dup K dX12_factor_102 rfl ?_
      refine mg_9 (v := z_1.2.2.2) K hin_X12 (u_988) rfl dX12_factor_103 ?_
      refine g_iconst (v := 1) K dX12_factor_106 (by decide) ?_
      refine g_isub K dX12_factor_107 ?_
      refine mp_9 (w' := mw (g_E Γ) m r (gu (gu (gu o 6 z_2.1) 8 z_2.2) 9 (z_1.2.2.2 - 1)) (gu A 1 z_1.1)) K hin_X12 (u_988) rfl rfl dX12_factor_108 rfl ?_
      obtain rfl := Option.some.inj h
      exact hret _ _ _ dX12_factor_111 rfl
    · have h := ht9 qh; clear ht9 hf9
      refine g_aload_n K dX12_factor_79 rfl 0 rfl ?_
      obtain ⟨z_3, hz_3, h⟩ := gi_bd h
      refine g_callVv (As := []) (bytes := cX12_factor) (maxL := 5) (ret := none) K (hkF (gu (gu (gu o 6 (y1 + y2)) 8 o8) 9 o9) (gu A 1 a1) z_3 hz_3) gc_V_RX12_87_X12_factor rfl qv_X12_factor 0 rfl rfl rfl hRm rfl rfl rfl (by constructor <;> (dsimp only; omega)) (Nat.le_of_ble_eq_true rfl) ⟨Nat.le_refl _, Nat.le_refl _⟩ dX12_factor_80 (fun w hw => ?_)
      subst hw
      refine g_ws (ws' := mw (g_E Γ) m r (gu (gu (gu o 6 z_3.2.1) 8 z_3.2.2.1) 9 z_3.2.2.2) (gu A 1 z_3.1)) rfl ?_
      refine g_aload_n K dX12_factor_83 rfl 0 rfl ?_
      refine g_iconst (v := (-1)) K dX12_factor_84 (by decide) ?_
      obtain ⟨z_4, hz_4, h⟩ := gi_bd h
      refine g_callVv (As := [.int (-1)]) (bytes := cX12_emits) (maxL := 2) (ret := none) K (ctX12_emits (gu (gu (gu o 6 z_3.2.1) 8 z_3.2.2.1) 9 z_3.2.2.2) (gu A 1 z_3.1) (-1) (res := z_4) hz_4) gc_V_RX12_90_X12_emits rfl qv_X12_emits 0 rfl rfl rfl hRm rfl rfl rfl (by constructor <;> (dsimp only; omega)) (Nat.le_of_ble_eq_true rfl) ⟨Nat.le_refl _, Nat.le_refl _⟩ dX12_factor_85 (fun w hw => ?_)
      subst hw
      refine g_ws (ws' := mw (g_E Γ) m r (gu (gu (gu o 6 z_3.2.1) 8 z_3.2.2.1) 9 z_3.2.2.2) (gu A 1 z_4)) rfl ?_
      refine g_goto (tgt := 101) K dX12_factor_88 (by decide) ?_
      refine g_aload_n K dX12_factor_101 rfl 0 rfl ?_
      refine g_dup K dX12_factor_102 rfl ?_
      refine mg_9 (v := z_3.2.2.2) K hin_X12 (u_988) rfl dX12_factor_103 ?_
      refine g_iconst (v := 1) K dX12_factor_106 (by decide) ?_
      refine g_isub K dX12_factor_107 ?_
      refine mp_9 (w' := mw (g_E Γ) m r (gu (gu (gu o 6 z_3.2.1) 8 z_3.2.2.1) 9 (z_3.2.2.2 - 1)) (gu A 1 z_4)) K hin_X12 (u_988) rfl rfl dX12_factor_108 rfl ?_
      obtain rfl := Option.some.inj h
      exact hret _ _ _ dX12_factor_111 rfl

set_option maxHeartbeats 4000000 in
set_option maxRecDepth 100000 in
theorem wX12_factorB_39 {Γ : gT} {m : Nat} {r : Nat → Nat} {o : Nat → Int32} {A : Nat → Nat → Int32} {dd : Nat} {kF : Int32 → Int32 → (Nat → Int32) → Int32 → Int32 → Int32 → Option (((Nat → Int32)) × Int32 × Int32 × Int32)} (hkF : ∀ (o : Nat → Int32) (A : Nat → Nat → Int32) (z : ((Nat → Int32)) × Int32 × Int32 × Int32), kF (o 5) (o 7) (A 1) (o 6) (o 8) (o 9) = some z → gMv yX12_factor (.code yX12_factor cX12_factor 5 none :: gU) ({ frames := 12 + 4 * dd + 0, cells := 0, slots := 0, locals := 400 + 160 * dd + 0 } : Room) 0 0 (g_E Γ) [.ref m] (mw (g_E Γ) m r o A) (fun w => w = mw (g_E Γ) m r (gu (gu (gu o 6 z.2.1) 8 z.2.2.1) 9 z.2.2.2) (gu A 1 z.1))) (K : gOK Γ cX12_factor gU RX12) (hlt : ∀ i, i < 5 → i < g_n Γ) (hRm : g_R Γ = ({ frames := 12 + 4 * dd + 4, cells := 0, slots := 0, locals := 400 + 160 * dd + 160 } : Room)) {res : ((Nat → Int32)) × Int32 × Int32 × Int32} (hret : ∀ (pc : Nat) (L : List (Nat × Value)) (w : va_W), decode cX12_factor pc = .ok (.return_, 1) → (w = mw (g_E Γ) m r (gu (gu (gu o 6 res.2.1) 8 res.2.2.1) 9 res.2.2.2) (gu A 1 res.1)) → gGO Γ 0 0 pc L [] w) (a1 : (Nat → Int32)) (o6 : Int32) (o8 : Int32) (o9 : Int32) (x1 : Int32) (y1 : Int32) (h : pX12_factorB_39 kF (o 5) (o 7) a1 o6 o8 o9 x1 y1 = some res) : gGO Γ 0 0 39 [(0, .ref m), (1, .int x1)] [.int y1, .ref m] (mw (g_E Γ) m r (gu (gu (gu o 6 o6) 8 o8) 9 o9) (gu A 1 a1)) := by
    unfold pX12_factorB_39 at h
    obtain ⟨c_1, h⟩ := gi_none h
    refine mp_8 (w' := mw (g_E Γ) m r (gu (gu (gu o 6 o6) 8 y1) 9 o9) (gu A 1 a1)) K hin_X12 (u_987) (gbool_nar c_1) (gbool_fit c_1) dX12_factor_39 rfl ?_
    refine g_aload_n K dX12_factor_42 rfl 0 rfl ?_
    refine g_dup K dX12_factor_43 rfl ?_
    refine mg_9 (v := o9) K hin_X12 (u_988) rfl dX12_factor_44 ?_
    refine g_iconst (v := 1) K dX12_factor_47 (by decide) ?_
    refine g_iadd K dX12_factor_48 ?_
    refine mp_9 (w' := mw (g_E Γ) m r (gu (gu (gu o 6 o6) 8 y1) 9 (o9 + 1)) (gu A 1 a1)) K hin_X12 (u_988) rfl rfl dX12_factor_49 rfl ?_
    refine g_aload_n K dX12_factor_52 rfl 0 rfl ?_
    refine g_dup K dX12_factor_53 rfl ?_
    refine mg_6 (v := o6) K hin_X12 (u_985) rfl dX12_factor_54 ?_
    refine g_aload_n K dX12_factor_57 rfl 0 rfl ?_
    refine mg_8 (v := y1) K hin_X12 (u_987) rfl dX12_factor_58 ?_
    obtain ⟨ht9, hf9⟩ := gi_br h; clear h
    refine g_if_eq (tgt := 68) K dX12_factor_61 (by decide) (fun qh => ?_) (fun qh => ?_)
    · have h := ht9 qh; clear ht9 hf9
      refine g_iconst (v := 1) K dX12_factor_68 (by decide) ?_
      exact wX12_factorB_69 hkF K hlt hRm hret a1 o6 y1 (o9 + 1) x1 o6 1 h
    · have h := hf9 qh; clear ht9 hf9
      refine g_iconst (v := 0) K dX12_factor_64 (by decide) ?_
      refine g_goto (tgt := 69) K dX12_factor_65 (by decide) ?_
      exact wX12_factorB_69 hkF K hlt hRm hret a1 o6 y1 (o9 + 1) x1 o6 0 h

set_option maxHeartbeats 4000000 in
set_option maxRecDepth 100000 in
theorem wX12_factorB_169 {Γ : gT} {m : Nat} {r : Nat → Nat} {o : Nat → Int32} {A : Nat → Nat → Int32} {dd : Nat} {kF : Int32 → Int32 → (Nat → Int32) → Int32 → Int32 → Int32 → Option (((Nat → Int32)) × Int32 × Int32 × Int32)} (hkF : ∀ (o : Nat → Int32) (A : Nat → Nat → Int32) (z : ((Nat → Int32)) × Int32 × Int32 × Int32), kF (o 5) (o 7) (A 1) (o 6) (o 8) (o 9) = some z → gMv yX12_factor (.code yX12_factor cX12_factor 5 none :: gU) ({ frames := 12 + 4 * dd + 0, cells := 0, slots := 0, locals := 400 + 160 * dd + 0 } : Room) 0 0 (g_E Γ) [.ref m] (mw (g_E Γ) m r o A) (fun w => w = mw (g_E Γ) m r (gu (gu (gu o 6 z.2.1) 8 z.2.2.1) 9 z.2.2.2) (gu A 1 z.1))) (K : gOK Γ cX12_factor gU RX12) (hlt : ∀ i, i < 5 → i < g_n Γ) (hRm : g_R Γ = ({ frames := 12 + 4 * dd + 4, cells := 0, slots := 0, locals := 400 + 160 * dd + 160 } : Room)) {res : ((Nat → Int32)) × Int32 × Int32 × Int32} (hret : ∀ (pc : Nat) (L : List (Nat × Value)) (w : va_W), decode cX12_factor pc = .ok (.return_, 1) → (w = mw (g_E Γ) m r (gu (gu (gu o 6 res.2.1) 8 res.2.2.1) 9 res.2.2.2) (gu A 1 res.1)) → gGO Γ 0 0 pc L [] w) (a1 : (Nat → Int32)) (o6 : Int32) (o8 : Int32) (o9 : Int32) (x2 : Int32) (x3 : Int32) (y1 : Int32) (h : pX12_factorB_169 kF (o 5) (o 7) a1 o6 o8 o9 x2 x3 y1 = some res) : gGO Γ 0 0 169 [(0, .ref m), (2, .int x2), (3, .int x3)] [.int y1, .ref m] (mw (g_E Γ) m r (gu (gu (gu o 6 o6) 8 o8) 9 o9) (gu A 1 a1)) := by
    unfold pX12_factorB_169 at h
    obtain ⟨c_1, h⟩ := gi_none h
    refine mp_8 (w' := mw (g_E Γ) m r (gu (gu (gu o 6 o6) 8 y1) 9 o9) (gu A 1 a1)) K hin_X12 (u_987) (gbool_nar c_1) (gbool_fit c_1) dX12_factor_169 rfl ?_
    refine g_aload_n K dX12_factor_172 rfl 0 rfl ?_
    obtain ⟨z_2, hz_2, h⟩ := gi_bd h
    refine g_callVi (As := []) (bytes := cX12_figures) (maxL := 3) (ret := (some .int)) K (ctX12_figures (gu (gu (gu o 6 o6) 8 y1) 9 o9) (gu A 1 a1) (res := z_2) hz_2) gc_V_RX12_104_X12_figures rfl qv_X12_figures 0 rfl rfl rfl hRm rfl rfl rfl (by constructor <;> (dsimp only; omega)) (Nat.le_of_ble_eq_true rfl) ⟨Nat.le_refl _, Nat.le_refl _⟩ dX12_factor_173 (fun v w hw => ?_)
    obtain ⟨hv9, rfl⟩ := hw; have hv9 := hv9.symm; subst hv9
    refine g_ws (ws' := mw (g_E Γ) m r (gu (gu (gu o 6 z_2.2.1) 8 z_2.2.2) 9 o9) (gu A 1 a1)) rfl ?_
    obtain ⟨v_3, ev_3, h⟩ := gi_nm h
    refine g_topi ev_3 ?_
    refine g_istore (L' := [(4, .int v_3), (0, .ref m), (2, .int x2), (3, .int x3)]) K dX12_factor_176 (hlt _ (by decide)) rfl ?_
    refine g_aload_n K dX12_factor_178 rfl 1 rfl ?_
    refine g_iload_n K dX12_factor_179 rfl 2 rfl ?_
    refine g_bipush (v := 8) K dX12_factor_180 (by decide) ?_
    refine g_iload_n K dX12_factor_182 rfl 3 rfl ?_
    refine g_imul K dX12_factor_183 ?_
    refine g_iadd K dX12_factor_184 ?_
    refine g_bipush (v := 32) K dX12_factor_185 (by decide) ?_
    refine g_iload K dX12_factor_187 0 rfl ?_
    refine g_imul K dX12_factor_189 ?_
    refine g_iadd K dX12_factor_190 ?_
    obtain ⟨z_4, hz_4, h⟩ := gi_bd h
    refine g_callVv (As := [.int ((x2 + (8 * x3)) + (32 * v_3))]) (bytes := cX12_emits) (maxL := 2) (ret := none) K (ctX12_emits (gu (gu (gu o 6 z_2.2.1) 8 z_2.2.2) 9 o9) (gu A 1 a1) ((x2 + (8 * x3)) + (32 * v_3)) (res := z_4) hz_4) gc_V_RX12_90_X12_emits rfl qv_X12_emits 0 rfl rfl rfl hRm rfl rfl rfl (by constructor <;> (dsimp only; omega)) (Nat.le_of_ble_eq_true rfl) ⟨Nat.le_refl _, Nat.le_refl _⟩ dX12_factor_191 (fun w hw => ?_)
    subst hw
    refine g_ws (ws' := mw (g_E Γ) m r (gu (gu (gu o 6 z_2.2.1) 8 z_2.2.2) 9 o9) (gu A 1 z_4)) rfl ?_
    obtain rfl := Option.some.inj h
    exact hret _ _ _ dX12_factor_194 rfl

set_option maxHeartbeats 4000000 in
set_option maxRecDepth 100000 in
theorem wX12_factorB_150 {Γ : gT} {m : Nat} {r : Nat → Nat} {o : Nat → Int32} {A : Nat → Nat → Int32} {dd : Nat} {kF : Int32 → Int32 → (Nat → Int32) → Int32 → Int32 → Int32 → Option (((Nat → Int32)) × Int32 × Int32 × Int32)} (hkF : ∀ (o : Nat → Int32) (A : Nat → Nat → Int32) (z : ((Nat → Int32)) × Int32 × Int32 × Int32), kF (o 5) (o 7) (A 1) (o 6) (o 8) (o 9) = some z → gMv yX12_factor (.code yX12_factor cX12_factor 5 none :: gU) ({ frames := 12 + 4 * dd + 0, cells := 0, slots := 0, locals := 400 + 160 * dd + 0 } : Room) 0 0 (g_E Γ) [.ref m] (mw (g_E Γ) m r o A) (fun w => w = mw (g_E Γ) m r (gu (gu (gu o 6 z.2.1) 8 z.2.2.1) 9 z.2.2.2) (gu A 1 z.1))) (K : gOK Γ cX12_factor gU RX12) (hlt : ∀ i, i < 5 → i < g_n Γ) (hRm : g_R Γ = ({ frames := 12 + 4 * dd + 4, cells := 0, slots := 0, locals := 400 + 160 * dd + 160 } : Room)) {res : ((Nat → Int32)) × Int32 × Int32 × Int32} (hret : ∀ (pc : Nat) (L : List (Nat × Value)) (w : va_W), decode cX12_factor pc = .ok (.return_, 1) → (w = mw (g_E Γ) m r (gu (gu (gu o 6 res.2.1) 8 res.2.2.1) 9 res.2.2.2) (gu A 1 res.1)) → gGO Γ 0 0 pc L [] w) (a1 : (Nat → Int32)) (o6 : Int32) (o8 : Int32) (o9 : Int32) (x2 : Int32) (y0 : Int32) (h : pX12_factorB_150 kF (o 5) (o 7) a1 o6 o8 o9 x2 y0 = some res) : gGO Γ 0 0 150 [(0, .ref m), (2, .int x2)] [.int y0] (mw (g_E Γ) m r (gu (gu (gu o 6 o6) 8 o8) 9 o9) (gu A 1 a1)) := by
    unfold pX12_factorB_150 at h
    refine g_istore_n (L' := [(3, .int y0), (0, .ref m), (2, .int x2)]) K dX12_factor_150 rfl (hlt _ (by decide)) rfl ?_
    refine g_aload_n K dX12_factor_151 rfl 1 rfl ?_
    refine g_aload_n K dX12_factor_152 rfl 1 rfl ?_
    refine mg_8 (v := o8) K hin_X12 (u_987) rfl dX12_factor_153 ?_
    obtain ⟨ht9, hf9⟩ := gi_br h; clear h
    refine g_if_ne (tgt := 164) K dX12_factor_156 (by decide) (fun qh => ?_) (fun qh => ?_)
    · have h := hf9 qh; clear ht9 hf9
      refine g_iconst (v := 1) K dX12_factor_164 (by decide) ?_
      refine g_goto (tgt := 169) K dX12_factor_165 (by decide) ?_
      refine g_sub (L' := [(0, .ref m), (2, .int x2), (3, .int y0)]) [1, 2, 0] rfl ?_
      exact wX12_factorB_169 hkF K hlt hRm hret a1 o6 o8 o9 x2 y0 1 h
    · have h := ht9 qh; clear ht9 hf9
      refine g_iload_n K dX12_factor_159 rfl 0 rfl ?_
      refine g_iconst (v := (-1)) K dX12_factor_160 (by decide) ?_
      obtain ⟨ht9, hf9⟩ := gi_br h; clear h
      refine g_icmp_ne (tgt := 168) K dX12_factor_161 (by decide) (fun qh => ?_) (fun qh => ?_)
      · have h := hf9 qh; clear ht9 hf9
        refine g_iconst (v := 0) K dX12_factor_168 (by decide) ?_
        refine g_sub (L' := [(0, .ref m), (2, .int x2), (3, .int y0)]) [1, 2, 0] rfl ?_
        exact wX12_factorB_169 hkF K hlt hRm hret a1 o6 o8 o9 x2 y0 0 h
      · have h := ht9 qh; clear ht9 hf9
        refine g_iconst (v := 1) K dX12_factor_164 (by decide) ?_
        refine g_goto (tgt := 169) K dX12_factor_165 (by decide) ?_
        refine g_sub (L' := [(0, .ref m), (2, .int x2), (3, .int y0)]) [1, 2, 0] rfl ?_
        exact wX12_factorB_169 hkF K hlt hRm hret a1 o6 o8 o9 x2 y0 1 h

set_option maxHeartbeats 4000000 in
set_option maxRecDepth 100000 in
theorem wX12_factorB_130 {Γ : gT} {m : Nat} {r : Nat → Nat} {o : Nat → Int32} {A : Nat → Nat → Int32} {dd : Nat} {kF : Int32 → Int32 → (Nat → Int32) → Int32 → Int32 → Int32 → Option (((Nat → Int32)) × Int32 × Int32 × Int32)} (hkF : ∀ (o : Nat → Int32) (A : Nat → Nat → Int32) (z : ((Nat → Int32)) × Int32 × Int32 × Int32), kF (o 5) (o 7) (A 1) (o 6) (o 8) (o 9) = some z → gMv yX12_factor (.code yX12_factor cX12_factor 5 none :: gU) ({ frames := 12 + 4 * dd + 0, cells := 0, slots := 0, locals := 400 + 160 * dd + 0 } : Room) 0 0 (g_E Γ) [.ref m] (mw (g_E Γ) m r o A) (fun w => w = mw (g_E Γ) m r (gu (gu (gu o 6 z.2.1) 8 z.2.2.1) 9 z.2.2.2) (gu A 1 z.1))) (K : gOK Γ cX12_factor gU RX12) (hlt : ∀ i, i < 5 → i < g_n Γ) (hRm : g_R Γ = ({ frames := 12 + 4 * dd + 4, cells := 0, slots := 0, locals := 400 + 160 * dd + 160 } : Room)) {res : ((Nat → Int32)) × Int32 × Int32 × Int32} (hret : ∀ (pc : Nat) (L : List (Nat × Value)) (w : va_W), decode cX12_factor pc = .ok (.return_, 1) → (w = mw (g_E Γ) m r (gu (gu (gu o 6 res.2.1) 8 res.2.2.1) 9 res.2.2.2) (gu A 1 res.1)) → gGO Γ 0 0 pc L [] w) (a1 : (Nat → Int32)) (o6 : Int32) (o8 : Int32) (o9 : Int32) (x2 : Int32) (y1 : Int32) (h : pX12_factorB_130 kF (o 5) (o 7) a1 o6 o8 o9 x2 y1 = some res) : gGO Γ 0 0 130 [(0, .ref m), (2, .int x2)] [.int y1, .ref m] (mw (g_E Γ) m r (gu (gu (gu o 6 o6) 8 o8) 9 o9) (gu A 1 a1)) := by
    unfold pX12_factorB_130 at h
    obtain ⟨c_1, h⟩ := gi_none h
    refine mp_8 (w' := mw (g_E Γ) m r (gu (gu (gu o 6 o6) 8 y1) 9 o9) (gu A 1 a1)) K hin_X12 (u_987) (gbool_nar c_1) (gbool_fit c_1) dX12_factor_130 rfl ?_
    refine g_aload_n K dX12_factor_133 rfl 0 rfl ?_
    refine mg_8 (v := y1) K hin_X12 (u_987) rfl dX12_factor_134 ?_
    obtain ⟨ht9, hf9⟩ := gi_br h; clear h
    refine g_if_eq (tgt := 144) K dX12_factor_137 (by decide) (fun qh => ?_) (fun qh => ?_)
    · have h := ht9 qh; clear ht9 hf9
      refine g_aload_n K dX12_factor_144 rfl 0 rfl ?_
      refine g_ldcS (tx := "<=>") K 6 (by decide +kernel) dX12_factor_145 ?_
      obtain ⟨z_2, hz_2, h⟩ := gi_bd h
      refine g_callVi (As := [.ref (gK (g_E Γ) 6)]) (bytes := cX12_among) (maxL := 3) (ret := (some .int)) K (ctX12_among_s6 (gu (gu (gu o 6 o6) 8 y1) 9 o9) (gu A 1 a1) (res := z_2) hz_2) gc_V_RX12_98_X12_among rfl qv_X12_among 0 rfl rfl rfl hRm rfl rfl rfl (by constructor <;> (dsimp only; omega)) (Nat.le_of_ble_eq_true rfl) ⟨Nat.le_refl _, Nat.le_refl _⟩ dX12_factor_147 (fun v w hw => ?_)
      obtain ⟨hv9, rfl⟩ := hw; have hv9 := hv9.symm; subst hv9
      refine g_ws (ws' := mw (g_E Γ) m r (gu (gu (gu o 6 z_2.2) 8 y1) 9 o9) (gu A 1 a1)) rfl ?_
      exact wX12_factorB_150 hkF K hlt hRm hret a1 z_2.2 y1 o9 x2 z_2.1 h
    · have h := hf9 qh; clear ht9 hf9
      refine g_iconst (v := 0) K dX12_factor_140 (by decide) ?_
      refine g_goto (tgt := 150) K dX12_factor_141 (by decide) ?_
      exact wX12_factorB_150 hkF K hlt hRm hret a1 o6 y1 o9 x2 0 h

set_option maxHeartbeats 4000000 in
set_option maxRecDepth 100000 in
theorem wX12_factorB {Γ : gT} {m : Nat} {r : Nat → Nat} {o : Nat → Int32} {A : Nat → Nat → Int32} {dd : Nat} {kF : Int32 → Int32 → (Nat → Int32) → Int32 → Int32 → Int32 → Option (((Nat → Int32)) × Int32 × Int32 × Int32)} (hkF : ∀ (o : Nat → Int32) (A : Nat → Nat → Int32) (z : ((Nat → Int32)) × Int32 × Int32 × Int32), kF (o 5) (o 7) (A 1) (o 6) (o 8) (o 9) = some z → gMv yX12_factor (.code yX12_factor cX12_factor 5 none :: gU) ({ frames := 12 + 4 * dd + 0, cells := 0, slots := 0, locals := 400 + 160 * dd + 0 } : Room) 0 0 (g_E Γ) [.ref m] (mw (g_E Γ) m r o A) (fun w => w = mw (g_E Γ) m r (gu (gu (gu o 6 z.2.1) 8 z.2.2.1) 9 z.2.2.2) (gu A 1 z.1))) (K : gOK Γ cX12_factor gU RX12) (hlt : ∀ i, i < 5 → i < g_n Γ) (hRm : g_R Γ = ({ frames := 12 + 4 * dd + 4, cells := 0, slots := 0, locals := 400 + 160 * dd + 160 } : Room)) {res : ((Nat → Int32)) × Int32 × Int32 × Int32} (hret : ∀ (pc : Nat) (L : List (Nat × Value)) (w : va_W), decode cX12_factor pc = .ok (.return_, 1) → (w = mw (g_E Γ) m r (gu (gu (gu o 6 res.2.1) 8 res.2.2.1) 9 res.2.2.2) (gu A 1 res.1)) → gGO Γ 0 0 pc L [] w) (a1 : (Nat → Int32)) (o6 : Int32) (o8 : Int32) (o9 : Int32) (h : pX12_factorB kF (o 5) (o 7) a1 o6 o8 o9 = some res) : gGO Γ 0 0 0 [(0, .ref m)] [] (mw (g_E Γ) m r (gu (gu (gu o 6 o6) 8 o8) 9 o9) (gu A 1 a1)) := by
    unfold pX12_factorB at h
    refine g_aload_n K dX12_factor_0 rfl 0 rfl ?_
    refine mg_8 (v := o8) K hin_X12 (u_987) rfl dX12_factor_1 ?_
    obtain ⟨ht9, hf9⟩ := gi_br h; clear h
    refine g_if_eq (tgt := 8) K dX12_factor_4 (by decide) (fun qh => ?_) (fun qh => ?_)
    · have h := ht9 qh; clear ht9 hf9
      refine g_aload_n K dX12_factor_8 rfl 0 rfl ?_
      obtain ⟨z_1, hz_1, h⟩ := gi_bd h
      refine g_callVi (As := []) (bytes := cX12_here) (maxL := 1) (ret := (some .int)) K (ctX12_here (gu (gu (gu o 6 o6) 8 o8) 9 o9) (gu A 1 a1) (res := z_1) hz_1) gc_V_RX12_64_X12_here rfl qv_X12_here 0 rfl rfl rfl hRm rfl rfl rfl (by constructor <;> (dsimp only; omega)) (Nat.le_of_ble_eq_true rfl) ⟨Nat.le_refl _, Nat.le_refl _⟩ dX12_factor_9 (fun v w hw => ?_)
      obtain ⟨hv9, rfl⟩ := hw; have hv9 := hv9.symm; subst hv9
      refine g_istore_n (L' := [(1, .int z_1), (0, .ref m)]) K dX12_factor_12 rfl (hlt _ (by decide)) rfl ?_
      refine g_iload_n K dX12_factor_13 rfl 0 rfl ?_
      refine g_bipush (v := 33) K dX12_factor_14 (by decide) ?_
      obtain ⟨ht9, hf9⟩ := gi_br h; clear h
      refine g_icmp_eq (tgt := 25) K dX12_factor_16 (by decide) (fun qh => ?_) (fun qh => ?_)
      · have h := ht9 qh; clear ht9 hf9
        refine g_aload_n K dX12_factor_25 rfl 1 rfl ?_
        refine g_aload_n K dX12_factor_26 rfl 1 rfl ?_
        refine mg_9 (v := o9) K hin_X12 (u_988) rfl dX12_factor_27 ?_
        refine g_iconst (v := 5) K dX12_factor_30 (by decide) ?_
        obtain ⟨ht9, hf9⟩ := gi_br h; clear h
        refine g_icmp_ne (tgt := 38) K dX12_factor_31 (by decide) (fun qh => ?_) (fun qh => ?_)
        · have h := hf9 qh; clear ht9 hf9
          refine g_iconst (v := 0) K dX12_factor_38 (by decide) ?_
          refine g_sub (L' := [(0, .ref m), (1, .int z_1)]) [1, 0] rfl ?_
          exact wX12_factorB_39 hkF K hlt hRm hret a1 o6 o8 o9 z_1 0 h
        · have h := ht9 qh; clear ht9 hf9
          refine g_iconst (v := 1) K dX12_factor_34 (by decide) ?_
          refine g_goto (tgt := 39) K dX12_factor_35 (by decide) ?_
          refine g_sub (L' := [(0, .ref m), (1, .int z_1)]) [1, 0] rfl ?_
          exact wX12_factorB_39 hkF K hlt hRm hret a1 o6 o8 o9 z_1 1 h
      · have h := hf9 qh; clear ht9 hf9
        refine g_iload_n K dX12_factor_19 rfl 0 rfl ?_
        refine g_bipush (v := 40) K dX12_factor_20 (by decide) ?_
        obtain ⟨ht9, hf9⟩ := gi_br h; clear h
        refine g_icmp_ne (tgt := 112) K dX12_factor_22 (by decide) (fun qh => ?_) (fun qh => ?_)
        · have h := hf9 qh; clear ht9 hf9
          refine g_aload_n K dX12_factor_112 rfl 1 rfl ?_
          refine g_ldcS (tx := "wckbyt") K 1 (by decide +kernel) dX12_factor_113 ?_
          obtain ⟨z_2, hz_2, h⟩ := gi_bd h
          refine g_callVi (As := [.ref (gK (g_E Γ) 1)]) (bytes := cX12_among) (maxL := 3) (ret := (some .int)) K (ctX12_among_s1 (gu (gu (gu o 6 o6) 8 o8) 9 o9) (gu A 1 a1) (res := z_2) hz_2) gc_V_RX12_98_X12_among rfl qv_X12_among 0 rfl rfl rfl hRm rfl rfl rfl (by constructor <;> (dsimp only; omega)) (Nat.le_of_ble_eq_true rfl) ⟨Nat.le_refl _, Nat.le_refl _⟩ dX12_factor_115 (fun v w hw => ?_)
          obtain ⟨hv9, rfl⟩ := hw; have hv9 := hv9.symm; subst hv9
          refine g_ws (ws' := mw (g_E Γ) m r (gu (gu (gu o 6 z_2.2) 8 o8) 9 o9) (gu A 1 a1)) rfl ?_
          obtain ⟨v_3, ev_3, h⟩ := gi_nm h
          refine g_topi ev_3 ?_
          refine g_istore_n (L' := [(2, .int v_3), (1, .int z_1), (0, .ref m)]) K dX12_factor_118 rfl (hlt _ (by decide)) rfl ?_
          refine g_aload_n K dX12_factor_119 rfl 2 rfl ?_
          refine g_iload_n K dX12_factor_120 rfl 0 rfl ?_
          refine g_iconst (v := (-1)) K dX12_factor_121 (by decide) ?_
          obtain ⟨ht9, hf9⟩ := gi_br h; clear h
          refine g_icmp_ne (tgt := 129) K dX12_factor_122 (by decide) (fun qh => ?_) (fun qh => ?_)
          · have h := hf9 qh; clear ht9 hf9
            refine g_iconst (v := 0) K dX12_factor_129 (by decide) ?_
            refine g_sub (L' := [(0, .ref m), (2, .int v_3)]) [2, 0] rfl ?_
            exact wX12_factorB_130 hkF K hlt hRm hret a1 z_2.2 o8 o9 v_3 0 h
          · have h := ht9 qh; clear ht9 hf9
            refine g_iconst (v := 1) K dX12_factor_125 (by decide) ?_
            refine g_goto (tgt := 130) K dX12_factor_126 (by decide) ?_
            refine g_sub (L' := [(0, .ref m), (2, .int v_3)]) [2, 0] rfl ?_
            exact wX12_factorB_130 hkF K hlt hRm hret a1 z_2.2 o8 o9 v_3 1 h
        · have h := ht9 qh; clear ht9 hf9
          refine g_aload_n K dX12_factor_25 rfl 1 rfl ?_
          refine g_aload_n K dX12_factor_26 rfl 1 rfl ?_
          refine mg_9 (v := o9) K hin_X12 (u_988) rfl dX12_factor_27 ?_
          refine g_iconst (v := 5) K dX12_factor_30 (by decide) ?_
          obtain ⟨ht9, hf9⟩ := gi_br h; clear h
          refine g_icmp_ne (tgt := 38) K dX12_factor_31 (by decide) (fun qh => ?_) (fun qh => ?_)
          · have h := hf9 qh; clear ht9 hf9
            refine g_iconst (v := 0) K dX12_factor_38 (by decide) ?_
            refine g_sub (L' := [(0, .ref m), (1, .int z_1)]) [1, 0] rfl ?_
            exact wX12_factorB_39 hkF K hlt hRm hret a1 o6 o8 o9 z_1 0 h
          · have h := ht9 qh; clear ht9 hf9
            refine g_iconst (v := 1) K dX12_factor_34 (by decide) ?_
            refine g_goto (tgt := 39) K dX12_factor_35 (by decide) ?_
            refine g_sub (L' := [(0, .ref m), (1, .int z_1)]) [1, 0] rfl ?_
            exact wX12_factorB_39 hkF K hlt hRm hret a1 o6 o8 o9 z_1 1 h
    · have h := hf9 qh; clear ht9 hf9
      obtain rfl := Option.some.inj h
      exact hret _ _ _ dX12_factor_7 rfl

set_option maxRecDepth 100000 in
theorem ctX12_factorB {E : gE} {m : Nat} {r : Nat → Nat} {dd : Nat} {kF : Int32 → Int32 → (Nat → Int32) → Int32 → Int32 → Int32 → Option (((Nat → Int32)) × Int32 × Int32 × Int32)} (hkF : ∀ (o : Nat → Int32) (A : Nat → Nat → Int32) (z : ((Nat → Int32)) × Int32 × Int32 × Int32), kF (o 5) (o 7) (A 1) (o 6) (o 8) (o 9) = some z → gMv yX12_factor (.code yX12_factor cX12_factor 5 none :: gU) ({ frames := 12 + 4 * dd + 0, cells := 0, slots := 0, locals := 400 + 160 * dd + 0 } : Room) 0 0 E [.ref m] (mw E m r o A) (fun w => w = mw E m r (gu (gu (gu o 6 z.2.1) 8 z.2.2.1) 9 z.2.2.2) (gu A 1 z.1))) (o : Nat → Int32) (A : Nat → Nat → Int32) {res : ((Nat → Int32)) × Int32 × Int32 × Int32} (h : pX12_factorB kF (o 5) (o 7) (A 1) (o 6) (o 8) (o 9) = some res) : gMv yX12_factor (.code yX12_factor cX12_factor 5 none :: gU) ({ frames := 12 + 4 * dd + 4, cells := 0, slots := 0, locals := 400 + 160 * dd + 160 } : Room) 0 0 E [.ref m] (mw E m r o A) (fun w => w = mw E m r (gu (gu (gu o 6 res.2.1) 8 res.2.2.1) 9 res.2.2.2) (gu A 1 res.1)) := by
  refine g_met_v (by decide +kernel) (Nat.le_of_ble_eq_true rfl) (fun Γ K hn hE hRm _ hret => ?_)
  subst hE
  have hlt : ∀ i, i < 5 → i < g_n Γ := fun i q => by rw [hn]; exact q
  refine g_ws (ws' := mw (g_E Γ) m r (gu (gu (gu o 6 (o 6)) 8 (o 8)) 9 (o 9)) (gu A 1 (A 1))) rfl ?_
  refine g_sub (L' := [(0, .ref m)]) [0] rfl ?_
  exact wX12_factorB hkF K hlt hRm hret (A 1) (o 6) (o 8) (o 9) h

theorem ctX12_factorN {E : gE} {m : Nat} {r : Nat → Nat} : ∀ (dd : Nat) (o : Nat → Int32) (A : Nat → Nat → Int32) {res : ((Nat → Int32)) × Int32 × Int32 × Int32} (h : pX12_factor dd (o 5) (o 7) (A 1) (o 6) (o 8) (o 9) = some res), gMv yX12_factor (.code yX12_factor cX12_factor 5 none :: gU) ({ frames := 12 + 4 * dd + 0, cells := 0, slots := 0, locals := 400 + 160 * dd + 0 } : Room) 0 0 E [.ref m] (mw E m r o A) (fun w => w = mw E m r (gu (gu (gu o 6 res.2.1) 8 res.2.2.1) 9 res.2.2.2) (gu A 1 res.1)) := by
  intro dd
  induction dd with
  | zero => intro o A res h; cases h
  | succ dd ih =>
    intro o A res h
    have z := ctX12_factorB (E := E) (dd := dd) (m := m) (r := r) (kF := pX12_factor dd) (fun o A z h => ih o A h) o A (res := res) h
    rw [show 12 + 4 * (dd + 1) + 0 = 12 + 4 * dd + 4 by omega, show 400 + 160 * (dd + 1) + 0 = 400 + 160 * dd + 160 by omega]
    exact z

set_option maxHeartbeats 4000000 in
set_option maxRecDepth 100000 in
theorem wX12_much_s2 {Γ : gT} {m : Nat} {r : Nat → Nat} {o : Nat → Int32} {A : Nat → Nat → Int32} (K : gOK Γ cX12_much gU RX12) (hlt : ∀ i, i < 4 → i < g_n Γ) (hRm : g_R Γ = ({ frames := 47, cells := 0, slots := 0, locals := 1780 } : Room)) {res : ((Nat → Int32)) × Int32 × Int32 × Int32} (hret : ∀ (pc : Nat) (L : List (Nat × Value)) (w : va_W), decode cX12_much pc = .ok (.return_, 1) → (w = mw (g_E Γ) m r (gu (gu (gu o 6 res.2.1) 8 res.2.2.1) 9 res.2.2.2) (gu A 1 res.1)) → gGO Γ 0 0 pc L [] w) (a1 : (Nat → Int32)) (o6 : Int32) (o8 : Int32) (o9 : Int32) (x1 : Int32) (h : pX12_much_s2 (o 5) (o 7) a1 o6 o8 o9 x1 = some res) : gGO Γ 0 0 0 [(0, .ref m), (1, .int x1), (2, .ref (gK (g_E Γ) 2))] [] (mw (g_E Γ) m r (gu (gu (gu o 6 o6) 8 o8) 9 o9) (gu A 1 a1)) := by
    unfold pX12_much_s2 at h
    refine g_aload_n K dX12_much_0 rfl 0 rfl ?_
    refine g_aload_n K dX12_much_1 rfl 2 rfl ?_
    obtain ⟨z_1, hz_1, h⟩ := gi_bd h
    refine g_callVv (As := [.ref (gK (g_E Γ) 2)]) (bytes := cX12_spells) (maxL := 3) (ret := none) K (ctX12_spells_s2 (gu (gu (gu o 6 o6) 8 o8) 9 o9) (gu A 1 a1) (res := z_1) hz_1) gc_V_RX12_110_X12_spells rfl qv_X12_spells 0 rfl rfl rfl hRm rfl rfl rfl (by decide) (Nat.le_of_ble_eq_true rfl) (by decide) dX12_much_2 (fun w hw => ?_)
    subst hw
    refine g_ws (ws' := mw (g_E Γ) m r (gu (gu (gu o 6 z_1.1) 8 z_1.2) 9 o9) (gu A 1 a1)) rfl ?_
    refine g_aload_n K dX12_much_5 rfl 0 rfl ?_
    obtain ⟨z_2, hz_2, h⟩ := gi_bd h
    refine g_callVi (As := []) (bytes := cX12_figures) (maxL := 3) (ret := (some .int)) K (ctX12_figures (gu (gu (gu o 6 z_1.1) 8 z_1.2) 9 o9) (gu A 1 a1) (res := z_2) hz_2) gc_V_RX12_104_X12_figures rfl qv_X12_figures 0 rfl rfl rfl hRm rfl rfl rfl (by decide) (Nat.le_of_ble_eq_true rfl) (by decide) dX12_much_6 (fun v w hw => ?_)
    obtain ⟨hv9, rfl⟩ := hw; have hv9 := hv9.symm; subst hv9
    refine g_ws (ws' := mw (g_E Γ) m r (gu (gu (gu o 6 z_2.2.1) 8 z_2.2.2) 9 o9) (gu A 1 a1)) rfl ?_
    obtain ⟨v_3, ev_3, h⟩ := gi_nm h
    refine g_topi ev_3 ?_
    refine g_istore_n (L' := [(3, .int v_3), (0, .ref m), (1, .int x1), (2, .ref (gK (g_E Γ) 2))]) K dX12_much_9 rfl (hlt _ (by decide)) rfl ?_
    refine g_aload_n K dX12_much_10 rfl 1 rfl ?_
    refine g_bipush (v := 32) K dX12_much_11 (by decide) ?_
    obtain ⟨z_4, hz_4, h⟩ := gi_bd h
    refine g_callVv (As := [.int 32]) (bytes := cX12_must) (maxL := 2) (ret := none) K (ctX12_must (gu (gu (gu o 6 z_2.2.1) 8 z_2.2.2) 9 o9) (gu A 1 a1) 32 (res := z_4) hz_4) gc_V_RX12_77_X12_must rfl qv_X12_must 0 rfl rfl rfl hRm rfl rfl rfl (by decide) (Nat.le_of_ble_eq_true rfl) (by decide) dX12_much_13 (fun w hw => ?_)
    subst hw
    refine g_ws (ws' := mw (g_E Γ) m r (gu (gu (gu o 6 z_4.1) 8 z_4.2) 9 o9) (gu A 1 a1)) rfl ?_
    refine g_aload_n K dX12_much_16 rfl 1 rfl ?_
    obtain ⟨z_5, hz_5, h⟩ := gi_bd h
    refine g_callVv (As := []) (bytes := cX12_some) (maxL := 1) (ret := none) K (ctX12_some (dd := 8) (fun o A z h => ctX12_factorN 8 o A (res := z) h) (gu (gu (gu o 6 z_4.1) 8 z_4.2) 9 o9) (gu A 1 a1) (res := z_5) hz_5) gc_V_RX12_93_X12_some rfl qv_X12_some 0 rfl rfl rfl hRm rfl rfl rfl (by decide) (Nat.le_of_ble_eq_true rfl) (by decide) dX12_much_17 (fun w hw => ?_)
    subst hw
    refine g_ws (ws' := mw (g_E Γ) m r (gu (gu (gu o 6 z_5.2.1) 8 z_5.2.2.1) 9 z_5.2.2.2) (gu A 1 z_5.1)) rfl ?_
    refine g_aload_n K dX12_much_20 rfl 1 rfl ?_
    refine g_iload_n K dX12_much_21 rfl 2 rfl ?_
    refine g_iload_n K dX12_much_22 rfl 0 rfl ?_
    refine g_isub K dX12_much_23 ?_
    obtain ⟨z_6, hz_6, h⟩ := gi_bd h
    refine g_callVv (As := [.int (x1 - v_3)]) (bytes := cX12_emits) (maxL := 2) (ret := none) K (ctX12_emits (gu (gu (gu o 6 z_5.2.1) 8 z_5.2.2.1) 9 z_5.2.2.2) (gu A 1 z_5.1) (x1 - v_3) (res := z_6) hz_6) gc_V_RX12_90_X12_emits rfl qv_X12_emits 0 rfl rfl rfl hRm rfl rfl rfl (by decide) (Nat.le_of_ble_eq_true rfl) (by decide) dX12_much_24 (fun w hw => ?_)
    subst hw
    refine g_ws (ws' := mw (g_E Γ) m r (gu (gu (gu o 6 z_5.2.1) 8 z_5.2.2.1) 9 z_5.2.2.2) (gu A 1 z_6)) rfl ?_
    obtain rfl := Option.some.inj h
    exact hret _ _ _ dX12_much_27 rfl

set_option maxRecDepth 100000 in
theorem ctX12_much_s2 {E : gE} {m : Nat} {r : Nat → Nat} (o : Nat → Int32) (A : Nat → Nat → Int32) (x1 : Int32) {res : ((Nat → Int32)) × Int32 × Int32 × Int32} (h : pX12_much_s2 (o 5) (o 7) (A 1) (o 6) (o 8) (o 9) x1 = some res) : gMv yX12_much (.code yX12_much cX12_much 4 none :: gU) ({ frames := 47, cells := 0, slots := 0, locals := 1780 } : Room) 0 0 E [.ref m, .int x1, .ref (gK E 2)] (mw E m r o A) (fun w => w = mw E m r (gu (gu (gu o 6 res.2.1) 8 res.2.2.1) 9 res.2.2.2) (gu A 1 res.1)) := by
  refine g_met_v (by decide +kernel) (Nat.le_of_ble_eq_true rfl) (fun Γ K hn hE hRm _ hret => ?_)
  subst hE
  have hlt : ∀ i, i < 4 → i < g_n Γ := fun i q => by rw [hn]; exact q
  refine g_ws (ws' := mw (g_E Γ) m r (gu (gu (gu o 6 (o 6)) 8 (o 8)) 9 (o 9)) (gu A 1 (A 1))) rfl ?_
  refine g_sub (L' := [(0, .ref m), (1, .int x1), (2, .ref (gK (g_E Γ) 2))]) [0, 1, 2] rfl ?_
  exact wX12_much_s2 K hlt hRm hret (A 1) (o 6) (o 8) (o 9) x1 h

set_option maxHeartbeats 4000000 in
set_option maxRecDepth 100000 in
theorem wX12_spells_s0_2 {Γ : gT} {m : Nat} {r : Nat → Nat} {o : Nat → Int32} {A : Nat → Nat → Int32} (K : gOK Γ cX12_spells gU RX12) (hlt : ∀ i, i < 3 → i < g_n Γ) (hRm : g_R Γ = ({ frames := 10, cells := 0, slots := 0, locals := 400 } : Room)) {res : Int32 × Int32} (hret : ∀ (pc : Nat) (L : List (Nat × Value)) (w : va_W), decode cX12_spells pc = .ok (.return_, 1) → (w = mw (g_E Γ) m r (gu (gu o 6 res.1) 8 res.2) A) → gGO Γ 0 0 pc L [] w) : ∀ (n : Nat) (o6 : Int32) (o8 : Int32) (x2 : Int32), pX12_spells_s0_2 (A 1) (o 7) n o6 o8 x2 = some res → gGO Γ 0 0 2 [(0, .ref m), (1, .ref (gK (g_E Γ) 0)), (2, .int x2)] [] (mw (g_E Γ) m r (gu (gu o 6 o6) 8 o8) A) := by
  intro n
  induction n with
  | zero => intro _ _ _ h; cases h
  | succ n ih =>
    intro o6 o8 x2 h
    simp only [pX12_spells_s0_2] at h
    refine g_iload_n K dX12_spells_2 rfl 2 rfl ?_
    refine g_aload_n K dX12_spells_3 rfl 1 rfl ?_
    obtain ⟨z_1, hz_1, h⟩ := gi_bd h
    refine g_callViK (As := []) (bytes := cJ0_length_8abf5) (maxL := 1) (ret := (some .int)) K (ctJ0_length_8abf5 (ws := mw (g_E Γ) m r (gu (gu o 6 o6) 8 o8) A) (i0 := 0) (by decide) (res := z_1) hz_1) gc_V_RX12_68_J0_length_8abf5 rfl qv_J0_length_8abf5 (by decide) hRm rfl rfl rfl (by decide) (Nat.le_of_ble_eq_true rfl) (by decide) dX12_spells_4 (fun v w hw => ?_)
    obtain ⟨hv9, rfl⟩ := hw; have hv9 := hv9.symm; subst hv9
    obtain ⟨ht9, hf9⟩ := gi_br h; clear h
    refine g_icmp_ge (tgt := 25) K dX12_spells_7 (by decide) (fun qh => ?_) (fun qh => ?_)
    · have h := ht9 qh; clear ht9 hf9
      obtain rfl := Option.some.inj h
      exact hret _ _ _ dX12_spells_25 rfl
    · have h := hf9 qh; clear ht9 hf9
      refine g_aload_n K dX12_spells_10 rfl 0 rfl ?_
      refine g_aload_n K dX12_spells_11 rfl 1 rfl ?_
      refine g_iload_n K dX12_spells_12 rfl 2 rfl ?_
      obtain ⟨z_2, hz_2, h⟩ := gi_bd h
      refine g_callViK (As := [.int x2]) (bytes := cJ0_charAt_5068e) (maxL := 2) (ret := (some .char)) K (ctJ0_charAt_5068e (ws := mw (g_E Γ) m r (gu (gu o 6 o6) 8 o8) A) (i0 := 0) (by decide) x2 (res := z_2) hz_2) gc_V_RX12_73_J0_charAt_5068e rfl qv_J0_charAt_5068e (by decide) hRm rfl rfl rfl (by decide) (Nat.le_of_ble_eq_true rfl) (by decide) dX12_spells_13 (fun v w hw => ?_)
      obtain ⟨hv9, rfl⟩ := hw; have hv9 := hv9.symm; subst hv9
      obtain ⟨z_3, hz_3, h⟩ := gi_bd h
      refine g_callVv (As := [.int z_2]) (bytes := cX12_must) (maxL := 2) (ret := none) K (ctX12_must (gu (gu o 6 o6) 8 o8) A z_2 (res := z_3) hz_3) gc_V_RX12_77_X12_must rfl qv_X12_must 0 rfl rfl rfl hRm rfl rfl rfl (by decide) (Nat.le_of_ble_eq_true rfl) (by decide) dX12_spells_16 (fun w hw => ?_)
      subst hw
      refine g_ws (ws' := mw (g_E Γ) m r (gu (gu o 6 z_3.1) 8 z_3.2) A) rfl ?_
      refine g_iinc (v := (x2 + 1)) (L' := [(2, .int (x2 + 1)), (0, .ref m), (1, .ref (gK (g_E Γ) 0))]) K dX12_spells_19 2 rfl rfl (hlt _ (by decide)) rfl ?_
      refine g_goto (tgt := 2) K dX12_spells_22 (by decide) ?_
      refine g_sub (L' := [(0, .ref m), (1, .ref (gK (g_E Γ) 0)), (2, .int (x2 + 1))]) [1, 2, 0] rfl ?_
      exact ih z_3.1 z_3.2 (x2 + 1) h

set_option maxHeartbeats 4000000 in
set_option maxRecDepth 100000 in
theorem wX12_spells_s0 {Γ : gT} {m : Nat} {r : Nat → Nat} {o : Nat → Int32} {A : Nat → Nat → Int32} (K : gOK Γ cX12_spells gU RX12) (hlt : ∀ i, i < 3 → i < g_n Γ) (hRm : g_R Γ = ({ frames := 10, cells := 0, slots := 0, locals := 400 } : Room)) {res : Int32 × Int32} (hret : ∀ (pc : Nat) (L : List (Nat × Value)) (w : va_W), decode cX12_spells pc = .ok (.return_, 1) → (w = mw (g_E Γ) m r (gu (gu o 6 res.1) 8 res.2) A) → gGO Γ 0 0 pc L [] w) (o6 : Int32) (o8 : Int32) (h : pX12_spells_s0 (A 1) (o 7) o6 o8 = some res) : gGO Γ 0 0 0 [(0, .ref m), (1, .ref (gK (g_E Γ) 0))] [] (mw (g_E Γ) m r (gu (gu o 6 o6) 8 o8) A) := by
    unfold pX12_spells_s0 at h
    refine g_iconst (v := 0) K dX12_spells_0 (by decide) ?_
    refine g_istore_n (L' := [(2, .int 0), (0, .ref m), (1, .ref (gK (g_E Γ) 0))]) K dX12_spells_1 rfl (hlt _ (by decide)) rfl ?_
    refine g_sub (L' := [(0, .ref m), (1, .ref (gK (g_E Γ) 0)), (2, .int 0)]) [1, 2, 0] rfl ?_
    exact wX12_spells_s0_2 K hlt hRm hret 1000 o6 o8 0 h

set_option maxRecDepth 100000 in
theorem ctX12_spells_s0 {E : gE} {m : Nat} {r : Nat → Nat} (o : Nat → Int32) (A : Nat → Nat → Int32) {res : Int32 × Int32} (h : pX12_spells_s0 (A 1) (o 7) (o 6) (o 8) = some res) : gMv yX12_spells (.code yX12_spells cX12_spells 3 none :: gU) ({ frames := 10, cells := 0, slots := 0, locals := 400 } : Room) 0 0 E [.ref m, .ref (gK E 0)] (mw E m r o A) (fun w => w = mw E m r (gu (gu o 6 res.1) 8 res.2) A) := by
  refine g_met_v (by decide +kernel) (Nat.le_of_ble_eq_true rfl) (fun Γ K hn hE hRm _ hret => ?_)
  subst hE
  have hlt : ∀ i, i < 3 → i < g_n Γ := fun i q => by rw [hn]; exact q
  refine g_ws (ws' := mw (g_E Γ) m r (gu (gu o 6 (o 6)) 8 (o 8)) A) rfl ?_
  refine g_sub (L' := [(0, .ref m), (1, .ref (gK (g_E Γ) 0))]) [0, 1] rfl ?_
  exact wX12_spells_s0 K hlt hRm hret (o 6) (o 8) h

set_option maxHeartbeats 4000000 in
set_option maxRecDepth 100000 in
theorem wX12_much_s0 {Γ : gT} {m : Nat} {r : Nat → Nat} {o : Nat → Int32} {A : Nat → Nat → Int32} (K : gOK Γ cX12_much gU RX12) (hlt : ∀ i, i < 4 → i < g_n Γ) (hRm : g_R Γ = ({ frames := 47, cells := 0, slots := 0, locals := 1780 } : Room)) {res : ((Nat → Int32)) × Int32 × Int32 × Int32} (hret : ∀ (pc : Nat) (L : List (Nat × Value)) (w : va_W), decode cX12_much pc = .ok (.return_, 1) → (w = mw (g_E Γ) m r (gu (gu (gu o 6 res.2.1) 8 res.2.2.1) 9 res.2.2.2) (gu A 1 res.1)) → gGO Γ 0 0 pc L [] w) (a1 : (Nat → Int32)) (o6 : Int32) (o8 : Int32) (o9 : Int32) (x1 : Int32) (h : pX12_much_s0 (o 5) (o 7) a1 o6 o8 o9 x1 = some res) : gGO Γ 0 0 0 [(0, .ref m), (1, .int x1), (2, .ref (gK (g_E Γ) 0))] [] (mw (g_E Γ) m r (gu (gu (gu o 6 o6) 8 o8) 9 o9) (gu A 1 a1)) := by
    unfold pX12_much_s0 at h
    refine g_aload_n K dX12_much_0 rfl 0 rfl ?_
    refine g_aload_n K dX12_much_1 rfl 2 rfl ?_
    obtain ⟨z_1, hz_1, h⟩ := gi_bd h
    refine g_callVv (As := [.ref (gK (g_E Γ) 0)]) (bytes := cX12_spells) (maxL := 3) (ret := none) K (ctX12_spells_s0 (gu (gu (gu o 6 o6) 8 o8) 9 o9) (gu A 1 a1) (res := z_1) hz_1) gc_V_RX12_110_X12_spells rfl qv_X12_spells 0 rfl rfl rfl hRm rfl rfl rfl (by decide) (Nat.le_of_ble_eq_true rfl) (by decide) dX12_much_2 (fun w hw => ?_)
    subst hw
    refine g_ws (ws' := mw (g_E Γ) m r (gu (gu (gu o 6 z_1.1) 8 z_1.2) 9 o9) (gu A 1 a1)) rfl ?_
    refine g_aload_n K dX12_much_5 rfl 0 rfl ?_
    obtain ⟨z_2, hz_2, h⟩ := gi_bd h
    refine g_callVi (As := []) (bytes := cX12_figures) (maxL := 3) (ret := (some .int)) K (ctX12_figures (gu (gu (gu o 6 z_1.1) 8 z_1.2) 9 o9) (gu A 1 a1) (res := z_2) hz_2) gc_V_RX12_104_X12_figures rfl qv_X12_figures 0 rfl rfl rfl hRm rfl rfl rfl (by decide) (Nat.le_of_ble_eq_true rfl) (by decide) dX12_much_6 (fun v w hw => ?_)
    obtain ⟨hv9, rfl⟩ := hw; have hv9 := hv9.symm; subst hv9
    refine g_ws (ws' := mw (g_E Γ) m r (gu (gu (gu o 6 z_2.2.1) 8 z_2.2.2) 9 o9) (gu A 1 a1)) rfl ?_
    obtain ⟨v_3, ev_3, h⟩ := gi_nm h
    refine g_topi ev_3 ?_
    refine g_istore_n (L' := [(3, .int v_3), (0, .ref m), (1, .int x1), (2, .ref (gK (g_E Γ) 0))]) K dX12_much_9 rfl (hlt _ (by decide)) rfl ?_
    refine g_aload_n K dX12_much_10 rfl 1 rfl ?_
    refine g_bipush (v := 32) K dX12_much_11 (by decide) ?_
    obtain ⟨z_4, hz_4, h⟩ := gi_bd h
    refine g_callVv (As := [.int 32]) (bytes := cX12_must) (maxL := 2) (ret := none) K (ctX12_must (gu (gu (gu o 6 z_2.2.1) 8 z_2.2.2) 9 o9) (gu A 1 a1) 32 (res := z_4) hz_4) gc_V_RX12_77_X12_must rfl qv_X12_must 0 rfl rfl rfl hRm rfl rfl rfl (by decide) (Nat.le_of_ble_eq_true rfl) (by decide) dX12_much_13 (fun w hw => ?_)
    subst hw
    refine g_ws (ws' := mw (g_E Γ) m r (gu (gu (gu o 6 z_4.1) 8 z_4.2) 9 o9) (gu A 1 a1)) rfl ?_
    refine g_aload_n K dX12_much_16 rfl 1 rfl ?_
    obtain ⟨z_5, hz_5, h⟩ := gi_bd h
    refine g_callVv (As := []) (bytes := cX12_some) (maxL := 1) (ret := none) K (ctX12_some (dd := 8) (fun o A z h => ctX12_factorN 8 o A (res := z) h) (gu (gu (gu o 6 z_4.1) 8 z_4.2) 9 o9) (gu A 1 a1) (res := z_5) hz_5) gc_V_RX12_93_X12_some rfl qv_X12_some 0 rfl rfl rfl hRm rfl rfl rfl (by decide) (Nat.le_of_ble_eq_true rfl) (by decide) dX12_much_17 (fun w hw => ?_)
    subst hw
    refine g_ws (ws' := mw (g_E Γ) m r (gu (gu (gu o 6 z_5.2.1) 8 z_5.2.2.1) 9 z_5.2.2.2) (gu A 1 z_5.1)) rfl ?_
    refine g_aload_n K dX12_much_20 rfl 1 rfl ?_
    refine g_iload_n K dX12_much_21 rfl 2 rfl ?_
    refine g_iload_n K dX12_much_22 rfl 0 rfl ?_
    refine g_isub K dX12_much_23 ?_
    obtain ⟨z_6, hz_6, h⟩ := gi_bd h
    refine g_callVv (As := [.int (x1 - v_3)]) (bytes := cX12_emits) (maxL := 2) (ret := none) K (ctX12_emits (gu (gu (gu o 6 z_5.2.1) 8 z_5.2.2.1) 9 z_5.2.2.2) (gu A 1 z_5.1) (x1 - v_3) (res := z_6) hz_6) gc_V_RX12_90_X12_emits rfl qv_X12_emits 0 rfl rfl rfl hRm rfl rfl rfl (by decide) (Nat.le_of_ble_eq_true rfl) (by decide) dX12_much_24 (fun w hw => ?_)
    subst hw
    refine g_ws (ws' := mw (g_E Γ) m r (gu (gu (gu o 6 z_5.2.1) 8 z_5.2.2.1) 9 z_5.2.2.2) (gu A 1 z_6)) rfl ?_
    obtain rfl := Option.some.inj h
    exact hret _ _ _ dX12_much_27 rfl

set_option maxRecDepth 100000 in
theorem ctX12_much_s0 {E : gE} {m : Nat} {r : Nat → Nat} (o : Nat → Int32) (A : Nat → Nat → Int32) (x1 : Int32) {res : ((Nat → Int32)) × Int32 × Int32 × Int32} (h : pX12_much_s0 (o 5) (o 7) (A 1) (o 6) (o 8) (o 9) x1 = some res) : gMv yX12_much (.code yX12_much cX12_much 4 none :: gU) ({ frames := 47, cells := 0, slots := 0, locals := 1780 } : Room) 0 0 E [.ref m, .int x1, .ref (gK E 0)] (mw E m r o A) (fun w => w = mw E m r (gu (gu (gu o 6 res.2.1) 8 res.2.2.1) 9 res.2.2.2) (gu A 1 res.1)) := by
  refine g_met_v (by decide +kernel) (Nat.le_of_ble_eq_true rfl) (fun Γ K hn hE hRm _ hret => ?_)
  subst hE
  have hlt : ∀ i, i < 4 → i < g_n Γ := fun i q => by rw [hn]; exact q
  refine g_ws (ws' := mw (g_E Γ) m r (gu (gu (gu o 6 (o 6)) 8 (o 8)) 9 (o 9)) (gu A 1 (A 1))) rfl ?_
  refine g_sub (L' := [(0, .ref m), (1, .int x1), (2, .ref (gK (g_E Γ) 0))]) [0, 1, 2] rfl ?_
  exact wX12_much_s0 K hlt hRm hret (A 1) (o 6) (o 8) (o 9) x1 h

set_option maxHeartbeats 4000000 in
set_option maxRecDepth 100000 in
theorem wX12_clauseHere {Γ : gT} {m : Nat} {r : Nat → Nat} {o : Nat → Int32} {A : Nat → Nat → Int32} (K : gOK Γ cX12_clauseHere gU RX12) (hlt : ∀ i, i < 1 → i < g_n Γ) (hRm : g_R Γ = ({ frames := 48, cells := 0, slots := 0, locals := 1803 } : Room)) {res : ((Nat → Int32)) × Int32 × Int32 × Int32} (hret : ∀ (pc : Nat) (L : List (Nat × Value)) (w : va_W), decode cX12_clauseHere pc = .ok (.return_, 1) → (w = mw (g_E Γ) m r (gu (gu (gu o 6 res.2.1) 8 res.2.2.1) 9 res.2.2.2) (gu A 1 res.1)) → gGO Γ 0 0 pc L [] w) (a1 : (Nat → Int32)) (o6 : Int32) (o8 : Int32) (o9 : Int32) (h : pX12_clauseHere (o 5) (o 7) a1 o6 o8 o9 = some res) : gGO Γ 0 0 0 [(0, .ref m)] [] (mw (g_E Γ) m r (gu (gu (gu o 6 o6) 8 o8) 9 o9) (gu A 1 a1)) := by
    unfold pX12_clauseHere at h
    refine g_aload_n K dX12_clauseHere_0 rfl 0 rfl ?_
    obtain ⟨z_1, hz_1, h⟩ := gi_bd h
    refine g_callVi (As := []) (bytes := cX12_here) (maxL := 1) (ret := (some .int)) K (ctX12_here (gu (gu (gu o 6 o6) 8 o8) 9 o9) (gu A 1 a1) (res := z_1) hz_1) gc_V_RX12_64_X12_here rfl qv_X12_here 0 rfl rfl rfl hRm rfl rfl rfl (by decide) (Nat.le_of_ble_eq_true rfl) (by decide) dX12_clauseHere_1 (fun v w hw => ?_)
    obtain ⟨hv9, rfl⟩ := hw; have hv9 := hv9.symm; subst hv9
    obtain ⟨ht9, hf9⟩ := gi_br h; clear h
    by_cases q102 : z_1 = 102
    · have h := ht9 q102; clear ht9 hf9
      refine g_tabIn (tgt := 87) K dX12_clauseHere_4 (by rw [q102]; decide) (by rw [q102]; decide) (by rw [q102]; rfl) (by decide) ?_
      refine g_aload_n K dX12_clauseHere_87 rfl 0 rfl ?_
      refine g_sipush (v := 232) K dX12_clauseHere_88 (by decide) ?_
      refine g_ldcS (tx := "five ") K 3 (by decide +kernel) dX12_clauseHere_91 ?_
      obtain ⟨z_2, hz_2, h⟩ := gi_bd h
      refine g_callVv (As := [.int 232, .ref (gK (g_E Γ) 3)]) (bytes := cX12_tellsHere) (maxL := 4) (ret := none) K (ctX12_tellsHere_s3 (gu (gu (gu o 6 o6) 8 o8) 9 o9) (gu A 1 a1) 232 (res := z_2) hz_2) gc_V_RX12_124_X12_tellsHere rfl qv_X12_tellsHere 0 rfl rfl rfl hRm rfl rfl rfl (by decide) (Nat.le_of_ble_eq_true rfl) (by decide) dX12_clauseHere_93 (fun w hw => ?_)
      subst hw
      refine g_ws (ws' := mw (g_E Γ) m r (gu (gu (gu o 6 z_2.2.1) 8 z_2.2.2) 9 o9) (gu A 1 z_2.1)) rfl ?_
      refine g_goto (tgt := 128) K dX12_clauseHere_96 (by decide) ?_
      obtain rfl := Option.some.inj h
      exact hret _ _ _ dX12_clauseHere_128 rfl
    have h := hf9 q102; clear ht9 hf9
    obtain ⟨ht9, hf9⟩ := gi_br h; clear h
    by_cases q108 : z_1 = 108
    · have h := ht9 q108; clear ht9 hf9
      refine g_tabIn (tgt := 75) K dX12_clauseHere_4 (by rw [q108]; decide) (by rw [q108]; decide) (by rw [q108]; rfl) (by decide) ?_
      refine g_aload_n K dX12_clauseHere_75 rfl 0 rfl ?_
      refine g_sipush (v := (-200)) K dX12_clauseHere_76 (by decide) ?_
      refine g_ldcS (tx := "less ") K 2 (by decide +kernel) dX12_clauseHere_79 ?_
      obtain ⟨z_3, hz_3, h⟩ := gi_bd h
      refine g_callVv (As := [.int (-200), .ref (gK (g_E Γ) 2)]) (bytes := cX12_much) (maxL := 4) (ret := none) K (ctX12_much_s2 (gu (gu (gu o 6 o6) 8 o8) 9 o9) (gu A 1 a1) (-200) (res := z_3) hz_3) gc_V_RX12_116_X12_much rfl qv_X12_much 0 rfl rfl rfl hRm rfl rfl rfl (by decide) (Nat.le_of_ble_eq_true rfl) (by decide) dX12_clauseHere_81 (fun w hw => ?_)
      subst hw
      refine g_ws (ws' := mw (g_E Γ) m r (gu (gu (gu o 6 z_3.2.1) 8 z_3.2.2.1) 9 z_3.2.2.2) (gu A 1 z_3.1)) rfl ?_
      refine g_goto (tgt := 128) K dX12_clauseHere_84 (by decide) ?_
      obtain rfl := Option.some.inj h
      exact hret _ _ _ dX12_clauseHere_128 rfl
    have h := hf9 q108; clear ht9 hf9
    obtain ⟨ht9, hf9⟩ := gi_br h; clear h
    by_cases q109 : z_1 = 109
    · have h := ht9 q109; clear ht9 hf9
      refine g_tabIn (tgt := 64) K dX12_clauseHere_4 (by rw [q109]; decide) (by rw [q109]; decide) (by rw [q109]; rfl) (by decide) ?_
      refine g_aload_n K dX12_clauseHere_64 rfl 0 rfl ?_
      refine g_bipush (v := (-10)) K dX12_clauseHere_65 (by decide) ?_
      refine g_ldcS (tx := "more ") K 0 (by decide +kernel) dX12_clauseHere_67 ?_
      obtain ⟨z_4, hz_4, h⟩ := gi_bd h
      refine g_callVv (As := [.int (-10), .ref (gK (g_E Γ) 0)]) (bytes := cX12_much) (maxL := 4) (ret := none) K (ctX12_much_s0 (gu (gu (gu o 6 o6) 8 o8) 9 o9) (gu A 1 a1) (-10) (res := z_4) hz_4) gc_V_RX12_116_X12_much rfl qv_X12_much 0 rfl rfl rfl hRm rfl rfl rfl (by decide) (Nat.le_of_ble_eq_true rfl) (by decide) dX12_clauseHere_69 (fun w hw => ?_)
      subst hw
      refine g_ws (ws' := mw (g_E Γ) m r (gu (gu (gu o 6 z_4.2.1) 8 z_4.2.2.1) 9 z_4.2.2.2) (gu A 1 z_4.1)) rfl ?_
      refine g_goto (tgt := 128) K dX12_clauseHere_72 (by decide) ?_
      obtain rfl := Option.some.inj h
      exact hret _ _ _ dX12_clauseHere_128 rfl
    have h := hf9 q109; clear ht9 hf9
    obtain ⟨ht9, hf9⟩ := gi_br h; clear h
    by_cases q111 : z_1 = 111
    · have h := ht9 q111; clear ht9 hf9
      refine g_tabIn (tgt := 99) K dX12_clauseHere_4 (by rw [q111]; decide) (by rw [q111]; decide) (by rw [q111]; rfl) (by decide) ?_
      refine g_aload_n K dX12_clauseHere_99 rfl 0 rfl ?_
      refine g_sipush (v := 237) K dX12_clauseHere_100 (by decide) ?_
      refine g_ldcS (tx := "one ") K 4 (by decide +kernel) dX12_clauseHere_103 ?_
      obtain ⟨z_5, hz_5, h⟩ := gi_bd h
      refine g_callVv (As := [.int 237, .ref (gK (g_E Γ) 4)]) (bytes := cX12_tellsHere) (maxL := 4) (ret := none) K (ctX12_tellsHere_s4 (gu (gu (gu o 6 o6) 8 o8) 9 o9) (gu A 1 a1) 237 (res := z_5) hz_5) gc_V_RX12_124_X12_tellsHere rfl qv_X12_tellsHere 0 rfl rfl rfl hRm rfl rfl rfl (by decide) (Nat.le_of_ble_eq_true rfl) (by decide) dX12_clauseHere_105 (fun w hw => ?_)
      subst hw
      refine g_ws (ws' := mw (g_E Γ) m r (gu (gu (gu o 6 z_5.2.1) 8 z_5.2.2) 9 o9) (gu A 1 z_5.1)) rfl ?_
      refine g_goto (tgt := 128) K dX12_clauseHere_108 (by decide) ?_
      obtain rfl := Option.some.inj h
      exact hret _ _ _ dX12_clauseHere_128 rfl
    have h := hf9 q111; clear ht9 hf9
    obtain ⟨ht9, hf9⟩ := gi_br h; clear h
    by_cases q112 : z_1 = 112
    · have h := ht9 q112; clear ht9 hf9
      refine g_tabIn (tgt := 111) K dX12_clauseHere_4 (by rw [q112]; decide) (by rw [q112]; decide) (by rw [q112]; rfl) (by decide) ?_
      refine g_aload_n K dX12_clauseHere_111 rfl 0 rfl ?_
      refine g_sipush (v := 242) K dX12_clauseHere_112 (by decide) ?_
      refine g_ldcS (tx := "pay ") K 5 (by decide +kernel) dX12_clauseHere_115 ?_
      obtain ⟨z_6, hz_6, h⟩ := gi_bd h
      refine g_callVv (As := [.int 242, .ref (gK (g_E Γ) 5)]) (bytes := cX12_tellsHere) (maxL := 4) (ret := none) K (ctX12_tellsHere_s5 (gu (gu (gu o 6 o6) 8 o8) 9 o9) (gu A 1 a1) 242 (res := z_6) hz_6) gc_V_RX12_124_X12_tellsHere rfl qv_X12_tellsHere 0 rfl rfl rfl hRm rfl rfl rfl (by decide) (Nat.le_of_ble_eq_true rfl) (by decide) dX12_clauseHere_117 (fun w hw => ?_)
      subst hw
      refine g_ws (ws' := mw (g_E Γ) m r (gu (gu (gu o 6 z_6.2.1) 8 z_6.2.2) 9 o9) (gu A 1 z_6.1)) rfl ?_
      refine g_goto (tgt := 128) K dX12_clauseHere_120 (by decide) ?_
      obtain rfl := Option.some.inj h
      exact hret _ _ _ dX12_clauseHere_128 rfl
    have h := hf9 q112; clear ht9 hf9
    refine g_tabDef (tgt := 123) K dX12_clauseHere_4 (by decide) ?_ (by decide) ?_
    · intro k9 hk9 e9
      have hk9 : k9 < 11 := hk9
      rcases (show k9 = 0 ∨ k9 = 1 ∨ k9 = 2 ∨ k9 = 3 ∨ k9 = 4 ∨ k9 = 5 ∨ k9 = 6 ∨ k9 = 7 ∨ k9 = 8 ∨ k9 = 9 ∨ k9 = 10 by omega) with rfl | rfl | rfl | rfl | rfl | rfl | rfl | rfl | rfl | rfl | rfl
      · exact absurd e9 (gi_ne q102 (by decide))
      · rfl
      · rfl
      · rfl
      · rfl
      · rfl
      · exact absurd e9 (gi_ne q108 (by decide))
      · exact absurd e9 (gi_ne q109 (by decide))
      · rfl
      · exact absurd e9 (gi_ne q111 (by decide))
      · exact absurd e9 (gi_ne q112 (by decide))
    refine g_aload_n K dX12_clauseHere_123 rfl 0 rfl ?_
    refine g_iconst (v := 1) K dX12_clauseHere_124 (by decide) ?_
    refine mp_8 (w' := mw (g_E Γ) m r (gu (gu (gu o 6 o6) 8 1) 9 o9) (gu A 1 a1)) K hin_X12 (u_987) (by decide) (by decide) dX12_clauseHere_125 rfl ?_
    obtain rfl := Option.some.inj h
    exact hret _ _ _ dX12_clauseHere_128 rfl

set_option maxRecDepth 100000 in
theorem ctX12_clauseHere {E : gE} {m : Nat} {r : Nat → Nat} (o : Nat → Int32) (A : Nat → Nat → Int32) {res : ((Nat → Int32)) × Int32 × Int32 × Int32} (h : pX12_clauseHere (o 5) (o 7) (A 1) (o 6) (o 8) (o 9) = some res) : gMv yX12_clauseHere (.code yX12_clauseHere cX12_clauseHere 1 none :: gU) ({ frames := 48, cells := 0, slots := 0, locals := 1803 } : Room) 0 0 E [.ref m] (mw E m r o A) (fun w => w = mw E m r (gu (gu (gu o 6 res.2.1) 8 res.2.2.1) 9 res.2.2.2) (gu A 1 res.1)) := by
  refine g_met_v (by decide +kernel) (Nat.le_of_ble_eq_true rfl) (fun Γ K hn hE hRm _ hret => ?_)
  subst hE
  have hlt : ∀ i, i < 1 → i < g_n Γ := fun i q => by rw [hn]; exact q
  refine g_ws (ws' := mw (g_E Γ) m r (gu (gu (gu o 6 (o 6)) 8 (o 8)) 9 (o 9)) (gu A 1 (A 1))) rfl ?_
  refine g_sub (L' := [(0, .ref m)]) [0] rfl ?_
  exact wX12_clauseHere K hlt hRm hret (A 1) (o 6) (o 8) (o 9) h

