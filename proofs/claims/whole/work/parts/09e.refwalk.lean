set_option maxHeartbeats 4000000 in
set_option maxRecDepth 100000 in
theorem wX12_worksActs {Γ : gT} {m : Nat} {r : Nat → Nat} {o : Nat → Int32} {A : Nat → Nat → Int32} (K : gOK Γ cX12_worksActs gU RX12) (hlt : ∀ i, i < 2 → i < g_n Γ) (hRm : g_R Γ = ({ frames := 6, cells := 0, slots := 0, locals := 192 } : Room)) {res : Int32 × ((Nat → Int32)) × Int32} (hret : ∀ (pc : Nat) (L : List (Nat × Value)) (v : Int32) (w : va_W), decode cX12_worksActs pc = .ok (.ireturn, 1) → narrow .int (.int v) = .int v → (v = res.1 ∧ w = mw (g_E Γ) m r (gu o 18 res.2.2) (gu A 17 res.2.1)) → gGO Γ 0 0 pc L [.int v] w) (a17 : (Nat → Int32)) (o18 : Int32) (x1 : Int32) (h : pX12_worksActs (o 19) (o 20) a17 o18 x1 = some res) : gGO Γ 0 0 0 [(0, .ref m), (1, .int x1)] [] (mw (g_E Γ) m r (gu o 18 o18) (gu A 17 a17)) := by
    unfold pX12_worksActs at h
    refine g_aload_n K dX12_worksActs_0 rfl 0 rfl ?_
    refine mg_19 (v := (o 19)) K hin_X12 (u_998) rfl dX12_worksActs_1 ?_
    refine g_iconst (v := 1) K dX12_worksActs_4 (by decide) ?_
    obtain ⟨z_1, hz_1, h⟩ := gi_bd h
    refine g_callSi (As := [.int (o 19), .int 1]) (bytes := cX12_isUnder) (maxL := 2) (ret := (some .boolean)) K (ctX12_isUnder (ws := mw (g_E Γ) m r (gu o 18 o18) (gu A 17 a17)) (o 19) 1 (res := z_1) hz_1) gc_S_RX12_254_X12_isUnder rfl qs_X12_isUnder hRm rfl rfl rfl (by decide) (Nat.le_of_ble_eq_true rfl) (by decide) dX12_worksActs_5 (fun v w hw => ?_)
    obtain ⟨hv9, rfl⟩ := hw; have hv9 := hv9.symm; subst hv9
    obtain ⟨ht9, hf9⟩ := gi_br h; clear h
    refine g_if_eq (tgt := 25) K dX12_worksActs_8 (by decide) (fun qh => ?_) (fun qh => ?_)
    · have h := ht9 qh; clear ht9 hf9
      refine g_aload_n K dX12_worksActs_25 rfl 0 rfl ?_
      refine mg_19 (v := (o 19)) K hin_X12 (u_998) rfl dX12_worksActs_26 ?_
      refine g_iconst (v := 5) K dX12_worksActs_29 (by decide) ?_
      obtain ⟨ht9, hf9⟩ := gi_br h; clear h
      refine g_icmp_ne (tgt := 50) K dX12_worksActs_30 (by decide) (fun qh => ?_) (fun qh => ?_)
      · have h := hf9 qh; clear ht9 hf9
        refine g_aload_n K dX12_worksActs_50 rfl 0 rfl ?_
        refine g_iload_n K dX12_worksActs_51 rfl 1 rfl ?_
        obtain ⟨z_2, hz_2, h⟩ := gi_bd h
        refine g_callVi (As := [.int x1]) (bytes := cX12_plainWorks) (maxL := 2) (ret := (some .int)) K (ctX12_plainWorks (gu o 18 o18) (gu A 17 a17) x1 (res := z_2) hz_2) gc_V_RX12_257_X12_plainWorks rfl qv_X12_plainWorks 0 rfl rfl rfl hRm rfl rfl rfl (by decide) (Nat.le_of_ble_eq_true rfl) (by decide) dX12_worksActs_52 (fun v w hw => ?_)
        obtain ⟨hv9, rfl⟩ := hw; have hv9 := hv9.symm; subst hv9
        refine g_ws (ws' := mw (g_E Γ) m r (gu o 18 z_2.2.2) (gu A 17 z_2.2.1)) rfl ?_
        obtain rfl := Option.some.inj h
        exact hret _ _ _ _ dX12_worksActs_55 rfl ⟨rfl, rfl⟩
      · have h := ht9 qh; clear ht9 hf9
        refine g_aload_n K dX12_worksActs_33 rfl 0 rfl ?_
        refine g_bipush (v := 51) K dX12_worksActs_34 (by decide) ?_
        obtain ⟨z_3, hz_3, h⟩ := gi_bd h
        refine g_callVv (As := [.int 51]) (bytes := cX12_ranBody) (maxL := 2) (ret := none) K (ctX12_ranBody (gu o 18 o18) (gu A 17 a17) 51 (res := z_3) hz_3) gc_V_RX12_245_X12_ranBody rfl qv_X12_ranBody 0 rfl rfl rfl hRm rfl rfl rfl (by decide) (Nat.le_of_ble_eq_true rfl) (by decide) dX12_worksActs_36 (fun w hw => ?_)
        subst hw
        refine g_ws (ws' := mw (g_E Γ) m r (gu o 18 z_3.2) (gu A 17 z_3.1)) rfl ?_
        refine g_aload_n K dX12_worksActs_39 rfl 0 rfl ?_
        refine g_iload_n K dX12_worksActs_40 rfl 1 rfl ?_
        obtain ⟨z_4, hz_4, h⟩ := gi_bd h
        refine g_callVi (As := [.int x1]) (bytes := cX12_plainWorks) (maxL := 2) (ret := (some .int)) K (ctX12_plainWorks (gu o 18 z_3.2) (gu A 17 z_3.1) x1 (res := z_4) hz_4) gc_V_RX12_257_X12_plainWorks rfl qv_X12_plainWorks 0 rfl rfl rfl hRm rfl rfl rfl (by decide) (Nat.le_of_ble_eq_true rfl) (by decide) dX12_worksActs_41 (fun v w hw => ?_)
        obtain ⟨hv9, rfl⟩ := hw; have hv9 := hv9.symm; subst hv9
        refine g_ws (ws' := mw (g_E Γ) m r (gu o 18 z_4.2.2) (gu A 17 z_4.2.1)) rfl ?_
        refine g_aload_n K dX12_worksActs_44 rfl 0 rfl ?_
        refine mg_20 (v := (o 20)) K hin_X12 (u_999) rfl dX12_worksActs_45 ?_
        refine g_ixor K dX12_worksActs_48 ?_
        obtain rfl := Option.some.inj h
        exact hret _ _ _ _ dX12_worksActs_49 rfl ⟨rfl, rfl⟩
    · have h := hf9 qh; clear ht9 hf9
      refine g_aload_n K dX12_worksActs_11 rfl 0 rfl ?_
      refine g_bipush (v := 11) K dX12_worksActs_12 (by decide) ?_
      obtain ⟨z_5, hz_5, h⟩ := gi_bd h
      refine g_callVv (As := [.int 11]) (bytes := cX12_ranBody) (maxL := 2) (ret := none) K (ctX12_ranBody (gu o 18 o18) (gu A 17 a17) 11 (res := z_5) hz_5) gc_V_RX12_245_X12_ranBody rfl qv_X12_ranBody 0 rfl rfl rfl hRm rfl rfl rfl (by decide) (Nat.le_of_ble_eq_true rfl) (by decide) dX12_worksActs_14 (fun w hw => ?_)
      subst hw
      refine g_ws (ws' := mw (g_E Γ) m r (gu o 18 z_5.2) (gu A 17 z_5.1)) rfl ?_
      refine g_aload_n K dX12_worksActs_17 rfl 0 rfl ?_
      refine g_iload_n K dX12_worksActs_18 rfl 1 rfl ?_
      refine g_iconst (v := 3) K dX12_worksActs_19 (by decide) ?_
      refine g_imul K dX12_worksActs_20 ?_
      obtain ⟨z_6, hz_6, h⟩ := gi_bd h
      refine g_callVi (As := [.int (x1 * 3)]) (bytes := cX12_plainWorks) (maxL := 2) (ret := (some .int)) K (ctX12_plainWorks (gu o 18 z_5.2) (gu A 17 z_5.1) (x1 * 3) (res := z_6) hz_6) gc_V_RX12_257_X12_plainWorks rfl qv_X12_plainWorks 0 rfl rfl rfl hRm rfl rfl rfl (by decide) (Nat.le_of_ble_eq_true rfl) (by decide) dX12_worksActs_21 (fun v w hw => ?_)
      obtain ⟨hv9, rfl⟩ := hw; have hv9 := hv9.symm; subst hv9
      refine g_ws (ws' := mw (g_E Γ) m r (gu o 18 z_6.2.2) (gu A 17 z_6.2.1)) rfl ?_
      obtain rfl := Option.some.inj h
      exact hret _ _ _ _ dX12_worksActs_24 rfl ⟨rfl, rfl⟩

set_option maxRecDepth 100000 in
theorem ctX12_worksActs {E : gE} {m : Nat} {r : Nat → Nat} (o : Nat → Int32) (A : Nat → Nat → Int32) (x1 : Int32) {res : Int32 × ((Nat → Int32)) × Int32} (h : pX12_worksActs (o 19) (o 20) (A 17) (o 18) x1 = some res) : gMi yX12_worksActs (.code yX12_worksActs cX12_worksActs 2 (some .int) :: gU) ({ frames := 6, cells := 0, slots := 0, locals := 192 } : Room) 0 0 E [.ref m, .int x1] (mw E m r o A) (fun v w => v = res.1 ∧ w = mw E m r (gu o 18 res.2.2) (gu A 17 res.2.1)) := by
  refine g_met_i (by decide +kernel) (Nat.le_of_ble_eq_true rfl) (fun Γ K hn hE hRm _ hret => ?_)
  subst hE
  have hlt : ∀ i, i < 2 → i < g_n Γ := fun i q => by rw [hn]; exact q
  refine g_ws (ws' := mw (g_E Γ) m r (gu o 18 (o 18)) (gu A 17 (A 17))) rfl ?_
  refine g_sub (L' := [(0, .ref m), (1, .int x1)]) [0, 1] rfl ?_
  exact wX12_worksActs K hlt hRm hret (A 17) (o 18) x1 h

set_option maxHeartbeats 4000000 in
set_option maxRecDepth 100000 in
theorem wX12_plainGrades {Γ : gT} {m : Nat} {r : Nat → Nat} {o : Nat → Int32} {A : Nat → Nat → Int32} (K : gOK Γ cX12_plainGrades gU RX12) (hlt : ∀ i, i < 2 → i < g_n Γ) (hRm : g_R Γ = ({ frames := 7, cells := 0, slots := 0, locals := 213 } : Room)) {res : Int32 × ((Nat → Int32)) × Int32} (hret : ∀ (pc : Nat) (L : List (Nat × Value)) (v : Int32) (w : va_W), decode cX12_plainGrades pc = .ok (.ireturn, 1) → narrow .int (.int v) = .int v → (v = res.1 ∧ w = mw (g_E Γ) m r (gu o 18 res.2.2) (gu A 17 res.2.1)) → gGO Γ 0 0 pc L [.int v] w) (a17 : (Nat → Int32)) (o18 : Int32) (x1 : Int32) (h : pX12_plainGrades (o 19) (o 20) (o 21) a17 o18 x1 = some res) : gGO Γ 0 0 0 [(0, .ref m), (1, .int x1)] [] (mw (g_E Γ) m r (gu o 18 o18) (gu A 17 a17)) := by
    unfold pX12_plainGrades at h
    refine g_aload_n K dX12_plainGrades_0 rfl 0 rfl ?_
    refine g_iconst (v := 2) K dX12_plainGrades_1 (by decide) ?_
    obtain ⟨z_1, hz_1, h⟩ := gi_bd h
    refine g_callVv (As := [.int 2]) (bytes := cX12_ranBody) (maxL := 2) (ret := none) K (ctX12_ranBody (gu o 18 o18) (gu A 17 a17) 2 (res := z_1) hz_1) gc_V_RX12_245_X12_ranBody rfl qv_X12_ranBody 0 rfl rfl rfl hRm rfl rfl rfl (by decide) (Nat.le_of_ble_eq_true rfl) (by decide) dX12_plainGrades_2 (fun w hw => ?_)
    subst hw
    refine g_ws (ws' := mw (g_E Γ) m r (gu o 18 z_1.2) (gu A 17 z_1.1)) rfl ?_
    refine g_aload_n K dX12_plainGrades_5 rfl 0 rfl ?_
    refine g_iload_n K dX12_plainGrades_6 rfl 1 rfl ?_
    obtain ⟨z_2, hz_2, h⟩ := gi_bd h
    refine g_callVi (As := [.int x1]) (bytes := cX12_worksActs) (maxL := 2) (ret := (some .int)) K (ctX12_worksActs (gu o 18 z_1.2) (gu A 17 z_1.1) x1 (res := z_2) hz_2) gc_V_RX12_260_X12_worksActs rfl qv_X12_worksActs 0 rfl rfl rfl hRm rfl rfl rfl (by decide) (Nat.le_of_ble_eq_true rfl) (by decide) dX12_plainGrades_7 (fun v w hw => ?_)
    obtain ⟨hv9, rfl⟩ := hw; have hv9 := hv9.symm; subst hv9
    refine g_ws (ws' := mw (g_E Γ) m r (gu o 18 z_2.2.2) (gu A 17 z_2.2.1)) rfl ?_
    refine g_aload_n K dX12_plainGrades_10 rfl 0 rfl ?_
    refine mg_21 (v := (o 21)) K hin_X12 (u_1000) rfl dX12_plainGrades_11 ?_
    refine g_isub K dX12_plainGrades_14 ?_
    obtain rfl := Option.some.inj h
    exact hret _ _ _ _ dX12_plainGrades_15 rfl ⟨rfl, rfl⟩

set_option maxRecDepth 100000 in
theorem ctX12_plainGrades {E : gE} {m : Nat} {r : Nat → Nat} (o : Nat → Int32) (A : Nat → Nat → Int32) (x1 : Int32) {res : Int32 × ((Nat → Int32)) × Int32} (h : pX12_plainGrades (o 19) (o 20) (o 21) (A 17) (o 18) x1 = some res) : gMi yX12_plainGrades (.code yX12_plainGrades cX12_plainGrades 2 (some .int) :: gU) ({ frames := 7, cells := 0, slots := 0, locals := 213 } : Room) 0 0 E [.ref m, .int x1] (mw E m r o A) (fun v w => v = res.1 ∧ w = mw E m r (gu o 18 res.2.2) (gu A 17 res.2.1)) := by
  refine g_met_i (by decide +kernel) (Nat.le_of_ble_eq_true rfl) (fun Γ K hn hE hRm _ hret => ?_)
  subst hE
  have hlt : ∀ i, i < 2 → i < g_n Γ := fun i q => by rw [hn]; exact q
  refine g_ws (ws' := mw (g_E Γ) m r (gu o 18 (o 18)) (gu A 17 (A 17))) rfl ?_
  refine g_sub (L' := [(0, .ref m), (1, .int x1)]) [0, 1] rfl ?_
  exact wX12_plainGrades K hlt hRm hret (A 17) (o 18) x1 h

set_option maxHeartbeats 4000000 in
set_option maxRecDepth 100000 in
theorem wX12_gradesActs {Γ : gT} {m : Nat} {r : Nat → Nat} {o : Nat → Int32} {A : Nat → Nat → Int32} (K : gOK Γ cX12_gradesActs gU RX12) (hlt : ∀ i, i < 2 → i < g_n Γ) (hRm : g_R Γ = ({ frames := 8, cells := 0, slots := 0, locals := 234 } : Room)) {res : Int32 × ((Nat → Int32)) × Int32} (hret : ∀ (pc : Nat) (L : List (Nat × Value)) (v : Int32) (w : va_W), decode cX12_gradesActs pc = .ok (.ireturn, 1) → narrow .int (.int v) = .int v → (v = res.1 ∧ w = mw (g_E Γ) m r (gu o 18 res.2.2) (gu A 17 res.2.1)) → gGO Γ 0 0 pc L [.int v] w) (a17 : (Nat → Int32)) (o18 : Int32) (x1 : Int32) (h : pX12_gradesActs (o 19) (o 20) (o 21) a17 o18 x1 = some res) : gGO Γ 0 0 0 [(0, .ref m), (1, .int x1)] [] (mw (g_E Γ) m r (gu o 18 o18) (gu A 17 a17)) := by
    unfold pX12_gradesActs at h
    refine g_aload_n K dX12_gradesActs_0 rfl 0 rfl ?_
    refine mg_19 (v := (o 19)) K hin_X12 (u_998) rfl dX12_gradesActs_1 ?_
    refine g_iconst (v := 2) K dX12_gradesActs_4 (by decide) ?_
    obtain ⟨z_1, hz_1, h⟩ := gi_bd h
    refine g_callSi (As := [.int (o 19), .int 2]) (bytes := cX12_isUnder) (maxL := 2) (ret := (some .boolean)) K (ctX12_isUnder (ws := mw (g_E Γ) m r (gu o 18 o18) (gu A 17 a17)) (o 19) 2 (res := z_1) hz_1) gc_S_RX12_254_X12_isUnder rfl qs_X12_isUnder hRm rfl rfl rfl (by decide) (Nat.le_of_ble_eq_true rfl) (by decide) dX12_gradesActs_5 (fun v w hw => ?_)
    obtain ⟨hv9, rfl⟩ := hw; have hv9 := hv9.symm; subst hv9
    obtain ⟨ht9, hf9⟩ := gi_br h; clear h
    refine g_if_eq (tgt := 24) K dX12_gradesActs_8 (by decide) (fun qh => ?_) (fun qh => ?_)
    · have h := ht9 qh; clear ht9 hf9
      refine g_aload_n K dX12_gradesActs_24 rfl 0 rfl ?_
      refine mg_19 (v := (o 19)) K hin_X12 (u_998) rfl dX12_gradesActs_25 ?_
      refine g_bipush (v := 6) K dX12_gradesActs_28 (by decide) ?_
      obtain ⟨ht9, hf9⟩ := gi_br h; clear h
      refine g_icmp_ne (tgt := 50) K dX12_gradesActs_30 (by decide) (fun qh => ?_) (fun qh => ?_)
      · have h := hf9 qh; clear ht9 hf9
        refine g_aload_n K dX12_gradesActs_50 rfl 0 rfl ?_
        refine g_iload_n K dX12_gradesActs_51 rfl 1 rfl ?_
        obtain ⟨z_2, hz_2, h⟩ := gi_bd h
        refine g_callVi (As := [.int x1]) (bytes := cX12_plainGrades) (maxL := 2) (ret := (some .int)) K (ctX12_plainGrades (gu o 18 o18) (gu A 17 a17) x1 (res := z_2) hz_2) gc_V_RX12_266_X12_plainGrades rfl qv_X12_plainGrades 0 rfl rfl rfl hRm rfl rfl rfl (by decide) (Nat.le_of_ble_eq_true rfl) (by decide) dX12_gradesActs_52 (fun v w hw => ?_)
        obtain ⟨hv9, rfl⟩ := hw; have hv9 := hv9.symm; subst hv9
        refine g_ws (ws' := mw (g_E Γ) m r (gu o 18 z_2.2.2) (gu A 17 z_2.2.1)) rfl ?_
        obtain rfl := Option.some.inj h
        exact hret _ _ _ _ dX12_gradesActs_55 rfl ⟨rfl, rfl⟩
      · have h := ht9 qh; clear ht9 hf9
        refine g_aload_n K dX12_gradesActs_33 rfl 0 rfl ?_
        refine g_bipush (v := 61) K dX12_gradesActs_34 (by decide) ?_
        obtain ⟨z_3, hz_3, h⟩ := gi_bd h
        refine g_callVv (As := [.int 61]) (bytes := cX12_ranBody) (maxL := 2) (ret := none) K (ctX12_ranBody (gu o 18 o18) (gu A 17 a17) 61 (res := z_3) hz_3) gc_V_RX12_245_X12_ranBody rfl qv_X12_ranBody 0 rfl rfl rfl hRm rfl rfl rfl (by decide) (Nat.le_of_ble_eq_true rfl) (by decide) dX12_gradesActs_36 (fun w hw => ?_)
        subst hw
        refine g_ws (ws' := mw (g_E Γ) m r (gu o 18 z_3.2) (gu A 17 z_3.1)) rfl ?_
        refine g_aload_n K dX12_gradesActs_39 rfl 0 rfl ?_
        refine g_iload_n K dX12_gradesActs_40 rfl 1 rfl ?_
        obtain ⟨z_4, hz_4, h⟩ := gi_bd h
        refine g_callVi (As := [.int x1]) (bytes := cX12_plainGrades) (maxL := 2) (ret := (some .int)) K (ctX12_plainGrades (gu o 18 z_3.2) (gu A 17 z_3.1) x1 (res := z_4) hz_4) gc_V_RX12_266_X12_plainGrades rfl qv_X12_plainGrades 0 rfl rfl rfl hRm rfl rfl rfl (by decide) (Nat.le_of_ble_eq_true rfl) (by decide) dX12_gradesActs_41 (fun v w hw => ?_)
        obtain ⟨hv9, rfl⟩ := hw; have hv9 := hv9.symm; subst hv9
        refine g_ws (ws' := mw (g_E Γ) m r (gu o 18 z_4.2.2) (gu A 17 z_4.2.1)) rfl ?_
        refine g_aload_n K dX12_gradesActs_44 rfl 0 rfl ?_
        refine mg_21 (v := (o 21)) K hin_X12 (u_1000) rfl dX12_gradesActs_45 ?_
        refine g_iadd K dX12_gradesActs_48 ?_
        obtain rfl := Option.some.inj h
        exact hret _ _ _ _ dX12_gradesActs_49 rfl ⟨rfl, rfl⟩
    · have h := hf9 qh; clear ht9 hf9
      refine g_aload_n K dX12_gradesActs_11 rfl 0 rfl ?_
      refine g_bipush (v := 21) K dX12_gradesActs_12 (by decide) ?_
      obtain ⟨z_5, hz_5, h⟩ := gi_bd h
      refine g_callVv (As := [.int 21]) (bytes := cX12_ranBody) (maxL := 2) (ret := none) K (ctX12_ranBody (gu o 18 o18) (gu A 17 a17) 21 (res := z_5) hz_5) gc_V_RX12_245_X12_ranBody rfl qv_X12_ranBody 0 rfl rfl rfl hRm rfl rfl rfl (by decide) (Nat.le_of_ble_eq_true rfl) (by decide) dX12_gradesActs_14 (fun w hw => ?_)
      subst hw
      refine g_ws (ws' := mw (g_E Γ) m r (gu o 18 z_5.2) (gu A 17 z_5.1)) rfl ?_
      refine g_aload_n K dX12_gradesActs_17 rfl 0 rfl ?_
      refine g_iload_n K dX12_gradesActs_18 rfl 1 rfl ?_
      obtain ⟨z_6, hz_6, h⟩ := gi_bd h
      refine g_callVi (As := [.int x1]) (bytes := cX12_plainGrades) (maxL := 2) (ret := (some .int)) K (ctX12_plainGrades (gu o 18 z_5.2) (gu A 17 z_5.1) x1 (res := z_6) hz_6) gc_V_RX12_266_X12_plainGrades rfl qv_X12_plainGrades 0 rfl rfl rfl hRm rfl rfl rfl (by decide) (Nat.le_of_ble_eq_true rfl) (by decide) dX12_gradesActs_19 (fun v w hw => ?_)
      obtain ⟨hv9, rfl⟩ := hw; have hv9 := hv9.symm; subst hv9
      refine g_ws (ws' := mw (g_E Γ) m r (gu o 18 z_6.2.2) (gu A 17 z_6.2.1)) rfl ?_
      refine g_ineg K dX12_gradesActs_22 ?_
      obtain rfl := Option.some.inj h
      exact hret _ _ _ _ dX12_gradesActs_23 rfl ⟨rfl, rfl⟩

set_option maxRecDepth 100000 in
theorem ctX12_gradesActs {E : gE} {m : Nat} {r : Nat → Nat} (o : Nat → Int32) (A : Nat → Nat → Int32) (x1 : Int32) {res : Int32 × ((Nat → Int32)) × Int32} (h : pX12_gradesActs (o 19) (o 20) (o 21) (A 17) (o 18) x1 = some res) : gMi yX12_gradesActs (.code yX12_gradesActs cX12_gradesActs 2 (some .int) :: gU) ({ frames := 8, cells := 0, slots := 0, locals := 234 } : Room) 0 0 E [.ref m, .int x1] (mw E m r o A) (fun v w => v = res.1 ∧ w = mw E m r (gu o 18 res.2.2) (gu A 17 res.2.1)) := by
  refine g_met_i (by decide +kernel) (Nat.le_of_ble_eq_true rfl) (fun Γ K hn hE hRm _ hret => ?_)
  subst hE
  have hlt : ∀ i, i < 2 → i < g_n Γ := fun i q => by rw [hn]; exact q
  refine g_ws (ws' := mw (g_E Γ) m r (gu o 18 (o 18)) (gu A 17 (A 17))) rfl ?_
  refine g_sub (L' := [(0, .ref m), (1, .int x1)]) [0, 1] rfl ?_
  exact wX12_gradesActs K hlt hRm hret (A 17) (o 18) x1 h

set_option maxHeartbeats 4000000 in
set_option maxRecDepth 100000 in
theorem wX12_plainLevels {Γ : gT} {m : Nat} {r : Nat → Nat} {o : Nat → Int32} {A : Nat → Nat → Int32} (K : gOK Γ cX12_plainLevels gU RX12) (hlt : ∀ i, i < 2 → i < g_n Γ) (hRm : g_R Γ = ({ frames := 9, cells := 0, slots := 0, locals := 255 } : Room)) {res : Int32 × ((Nat → Int32)) × Int32} (hret : ∀ (pc : Nat) (L : List (Nat × Value)) (v : Int32) (w : va_W), decode cX12_plainLevels pc = .ok (.ireturn, 1) → narrow .int (.int v) = .int v → (v = res.1 ∧ w = mw (g_E Γ) m r (gu o 18 res.2.2) (gu A 17 res.2.1)) → gGO Γ 0 0 pc L [.int v] w) (a17 : (Nat → Int32)) (o18 : Int32) (x1 : Int32) (h : pX12_plainLevels (o 19) (o 20) (o 21) a17 o18 x1 = some res) : gGO Γ 0 0 0 [(0, .ref m), (1, .int x1)] [] (mw (g_E Γ) m r (gu o 18 o18) (gu A 17 a17)) := by
    unfold pX12_plainLevels at h
    refine g_aload_n K dX12_plainLevels_0 rfl 0 rfl ?_
    refine g_iconst (v := 3) K dX12_plainLevels_1 (by decide) ?_
    obtain ⟨z_1, hz_1, h⟩ := gi_bd h
    refine g_callVv (As := [.int 3]) (bytes := cX12_ranBody) (maxL := 2) (ret := none) K (ctX12_ranBody (gu o 18 o18) (gu A 17 a17) 3 (res := z_1) hz_1) gc_V_RX12_245_X12_ranBody rfl qv_X12_ranBody 0 rfl rfl rfl hRm rfl rfl rfl (by decide) (Nat.le_of_ble_eq_true rfl) (by decide) dX12_plainLevels_2 (fun w hw => ?_)
    subst hw
    refine g_ws (ws' := mw (g_E Γ) m r (gu o 18 z_1.2) (gu A 17 z_1.1)) rfl ?_
    refine g_aload_n K dX12_plainLevels_5 rfl 0 rfl ?_
    refine g_iload_n K dX12_plainLevels_6 rfl 1 rfl ?_
    obtain ⟨z_2, hz_2, h⟩ := gi_bd h
    refine g_callVi (As := [.int x1]) (bytes := cX12_gradesActs) (maxL := 2) (ret := (some .int)) K (ctX12_gradesActs (gu o 18 z_1.2) (gu A 17 z_1.1) x1 (res := z_2) hz_2) gc_V_RX12_269_X12_gradesActs rfl qv_X12_gradesActs 0 rfl rfl rfl hRm rfl rfl rfl (by decide) (Nat.le_of_ble_eq_true rfl) (by decide) dX12_plainLevels_7 (fun v w hw => ?_)
    obtain ⟨hv9, rfl⟩ := hw; have hv9 := hv9.symm; subst hv9
    refine g_ws (ws' := mw (g_E Γ) m r (gu o 18 z_2.2.2) (gu A 17 z_2.2.1)) rfl ?_
    refine g_iconst (v := 2) K dX12_plainLevels_10 (by decide) ?_
    refine g_imul K dX12_plainLevels_11 ?_
    obtain rfl := Option.some.inj h
    exact hret _ _ _ _ dX12_plainLevels_12 rfl ⟨rfl, rfl⟩

set_option maxRecDepth 100000 in
theorem ctX12_plainLevels {E : gE} {m : Nat} {r : Nat → Nat} (o : Nat → Int32) (A : Nat → Nat → Int32) (x1 : Int32) {res : Int32 × ((Nat → Int32)) × Int32} (h : pX12_plainLevels (o 19) (o 20) (o 21) (A 17) (o 18) x1 = some res) : gMi yX12_plainLevels (.code yX12_plainLevels cX12_plainLevels 2 (some .int) :: gU) ({ frames := 9, cells := 0, slots := 0, locals := 255 } : Room) 0 0 E [.ref m, .int x1] (mw E m r o A) (fun v w => v = res.1 ∧ w = mw E m r (gu o 18 res.2.2) (gu A 17 res.2.1)) := by
  refine g_met_i (by decide +kernel) (Nat.le_of_ble_eq_true rfl) (fun Γ K hn hE hRm _ hret => ?_)
  subst hE
  have hlt : ∀ i, i < 2 → i < g_n Γ := fun i q => by rw [hn]; exact q
  refine g_ws (ws' := mw (g_E Γ) m r (gu o 18 (o 18)) (gu A 17 (A 17))) rfl ?_
  refine g_sub (L' := [(0, .ref m), (1, .int x1)]) [0, 1] rfl ?_
  exact wX12_plainLevels K hlt hRm hret (A 17) (o 18) x1 h

set_option maxHeartbeats 4000000 in
set_option maxRecDepth 100000 in
theorem wX12_levelsActs {Γ : gT} {m : Nat} {r : Nat → Nat} {o : Nat → Int32} {A : Nat → Nat → Int32} (K : gOK Γ cX12_levelsActs gU RX12) (hlt : ∀ i, i < 3 → i < g_n Γ) (hRm : g_R Γ = ({ frames := 10, cells := 0, slots := 0, locals := 276 } : Room)) {res : Int32 × ((Nat → Int32)) × Int32} (hret : ∀ (pc : Nat) (L : List (Nat × Value)) (v : Int32) (w : va_W), decode cX12_levelsActs pc = .ok (.ireturn, 1) → narrow .int (.int v) = .int v → (v = res.1 ∧ w = mw (g_E Γ) m r (gu o 18 res.2.2) (gu A 17 res.2.1)) → gGO Γ 0 0 pc L [.int v] w) (a17 : (Nat → Int32)) (o18 : Int32) (x1 : Int32) (h : pX12_levelsActs (o 19) (o 20) (o 21) a17 o18 x1 = some res) : gGO Γ 0 0 0 [(0, .ref m), (1, .int x1)] [] (mw (g_E Γ) m r (gu o 18 o18) (gu A 17 a17)) := by
    unfold pX12_levelsActs at h
    refine g_aload_n K dX12_levelsActs_0 rfl 0 rfl ?_
    refine mg_19 (v := (o 19)) K hin_X12 (u_998) rfl dX12_levelsActs_1 ?_
    refine g_iconst (v := 3) K dX12_levelsActs_4 (by decide) ?_
    obtain ⟨z_1, hz_1, h⟩ := gi_bd h
    refine g_callSi (As := [.int (o 19), .int 3]) (bytes := cX12_isUnder) (maxL := 2) (ret := (some .boolean)) K (ctX12_isUnder (ws := mw (g_E Γ) m r (gu o 18 o18) (gu A 17 a17)) (o 19) 3 (res := z_1) hz_1) gc_S_RX12_254_X12_isUnder rfl qs_X12_isUnder hRm rfl rfl rfl (by decide) (Nat.le_of_ble_eq_true rfl) (by decide) dX12_levelsActs_5 (fun v w hw => ?_)
    obtain ⟨hv9, rfl⟩ := hw; have hv9 := hv9.symm; subst hv9
    obtain ⟨ht9, hf9⟩ := gi_br h; clear h
    refine g_if_eq (tgt := 26) K dX12_levelsActs_8 (by decide) (fun qh => ?_) (fun qh => ?_)
    · have h := ht9 qh; clear ht9 hf9
      refine g_aload_n K dX12_levelsActs_26 rfl 0 rfl ?_
      refine mg_19 (v := (o 19)) K hin_X12 (u_998) rfl dX12_levelsActs_27 ?_
      refine g_iconst (v := 4) K dX12_levelsActs_30 (by decide) ?_
      obtain ⟨ht9, hf9⟩ := gi_br h; clear h
      refine g_icmp_ne (tgt := 56) K dX12_levelsActs_31 (by decide) (fun qh => ?_) (fun qh => ?_)
      · have h := hf9 qh; clear ht9 hf9
        refine g_aload_n K dX12_levelsActs_56 rfl 0 rfl ?_
        refine g_iload_n K dX12_levelsActs_57 rfl 1 rfl ?_
        obtain ⟨z_2, hz_2, h⟩ := gi_bd h
        refine g_callVi (As := [.int x1]) (bytes := cX12_plainLevels) (maxL := 2) (ret := (some .int)) K (ctX12_plainLevels (gu o 18 o18) (gu A 17 a17) x1 (res := z_2) hz_2) gc_V_RX12_272_X12_plainLevels rfl qv_X12_plainLevels 0 rfl rfl rfl hRm rfl rfl rfl (by decide) (Nat.le_of_ble_eq_true rfl) (by decide) dX12_levelsActs_58 (fun v w hw => ?_)
        obtain ⟨hv9, rfl⟩ := hw; have hv9 := hv9.symm; subst hv9
        refine g_ws (ws' := mw (g_E Γ) m r (gu o 18 z_2.2.2) (gu A 17 z_2.2.1)) rfl ?_
        obtain rfl := Option.some.inj h
        exact hret _ _ _ _ dX12_levelsActs_61 rfl ⟨rfl, rfl⟩
      · have h := ht9 qh; clear ht9 hf9
        refine g_aload_n K dX12_levelsActs_34 rfl 0 rfl ?_
        refine g_bipush (v := 41) K dX12_levelsActs_35 (by decide) ?_
        obtain ⟨z_3, hz_3, h⟩ := gi_bd h
        refine g_callVv (As := [.int 41]) (bytes := cX12_ranBody) (maxL := 2) (ret := none) K (ctX12_ranBody (gu o 18 o18) (gu A 17 a17) 41 (res := z_3) hz_3) gc_V_RX12_245_X12_ranBody rfl qv_X12_ranBody 0 rfl rfl rfl hRm rfl rfl rfl (by decide) (Nat.le_of_ble_eq_true rfl) (by decide) dX12_levelsActs_37 (fun w hw => ?_)
        subst hw
        refine g_ws (ws' := mw (g_E Γ) m r (gu o 18 z_3.2) (gu A 17 z_3.1)) rfl ?_
        refine g_aload_n K dX12_levelsActs_40 rfl 0 rfl ?_
        refine g_iload_n K dX12_levelsActs_41 rfl 1 rfl ?_
        refine g_iconst (v := 1) K dX12_levelsActs_42 (by decide) ?_
        refine g_isub K dX12_levelsActs_43 ?_
        obtain ⟨z_4, hz_4, h⟩ := gi_bd h
        refine g_callVi (As := [.int (x1 - 1)]) (bytes := cX12_plainLevels) (maxL := 2) (ret := (some .int)) K (ctX12_plainLevels (gu o 18 z_3.2) (gu A 17 z_3.1) (x1 - 1) (res := z_4) hz_4) gc_V_RX12_272_X12_plainLevels rfl qv_X12_plainLevels 0 rfl rfl rfl hRm rfl rfl rfl (by decide) (Nat.le_of_ble_eq_true rfl) (by decide) dX12_levelsActs_44 (fun v w hw => ?_)
        obtain ⟨hv9, rfl⟩ := hw; have hv9 := hv9.symm; subst hv9
        refine g_ws (ws' := mw (g_E Γ) m r (gu o 18 z_4.2.2) (gu A 17 z_4.2.1)) rfl ?_
        obtain ⟨v_5, ev_5, h⟩ := gi_nm h
        refine g_topi ev_5 ?_
        refine g_istore_n (L' := [(2, .int v_5), (0, .ref m), (1, .int x1)]) K dX12_levelsActs_47 rfl (hlt _ (by decide)) rfl ?_
        refine g_iload_n K dX12_levelsActs_48 rfl 0 rfl ?_
        refine g_aload_n K dX12_levelsActs_49 rfl 1 rfl ?_
        refine g_iconst (v := 2) K dX12_levelsActs_50 (by decide) ?_
        obtain ⟨z_6, hz_6, h⟩ := gi_bd h
        refine g_callVi (As := [.int 2]) (bytes := cX12_worksActs) (maxL := 2) (ret := (some .int)) K (ctX12_worksActs (gu o 18 z_4.2.2) (gu A 17 z_4.2.1) 2 (res := z_6) hz_6) gc_V_RX12_260_X12_worksActs rfl qv_X12_worksActs 0 rfl rfl rfl hRm rfl rfl rfl (by decide) (Nat.le_of_ble_eq_true rfl) (by decide) dX12_levelsActs_51 (fun v w hw => ?_)
        obtain ⟨hv9, rfl⟩ := hw; have hv9 := hv9.symm; subst hv9
        refine g_ws (ws' := mw (g_E Γ) m r (gu o 18 z_6.2.2) (gu A 17 z_6.2.1)) rfl ?_
        refine g_iadd K dX12_levelsActs_54 ?_
        obtain rfl := Option.some.inj h
        exact hret _ _ _ _ dX12_levelsActs_55 rfl ⟨rfl, rfl⟩
    · have h := hf9 qh; clear ht9 hf9
      refine g_aload_n K dX12_levelsActs_11 rfl 0 rfl ?_
      refine g_bipush (v := 31) K dX12_levelsActs_12 (by decide) ?_
      obtain ⟨z_7, hz_7, h⟩ := gi_bd h
      refine g_callVv (As := [.int 31]) (bytes := cX12_ranBody) (maxL := 2) (ret := none) K (ctX12_ranBody (gu o 18 o18) (gu A 17 a17) 31 (res := z_7) hz_7) gc_V_RX12_245_X12_ranBody rfl qv_X12_ranBody 0 rfl rfl rfl hRm rfl rfl rfl (by decide) (Nat.le_of_ble_eq_true rfl) (by decide) dX12_levelsActs_14 (fun w hw => ?_)
      subst hw
      refine g_ws (ws' := mw (g_E Γ) m r (gu o 18 z_7.2) (gu A 17 z_7.1)) rfl ?_
      refine g_aload_n K dX12_levelsActs_17 rfl 0 rfl ?_
      refine g_iload_n K dX12_levelsActs_18 rfl 1 rfl ?_
      obtain ⟨z_8, hz_8, h⟩ := gi_bd h
      refine g_callVi (As := [.int x1]) (bytes := cX12_plainLevels) (maxL := 2) (ret := (some .int)) K (ctX12_plainLevels (gu o 18 z_7.2) (gu A 17 z_7.1) x1 (res := z_8) hz_8) gc_V_RX12_272_X12_plainLevels rfl qv_X12_plainLevels 0 rfl rfl rfl hRm rfl rfl rfl (by decide) (Nat.le_of_ble_eq_true rfl) (by decide) dX12_levelsActs_19 (fun v w hw => ?_)
      obtain ⟨hv9, rfl⟩ := hw; have hv9 := hv9.symm; subst hv9
      refine g_ws (ws' := mw (g_E Γ) m r (gu o 18 z_8.2.2) (gu A 17 z_8.2.1)) rfl ?_
      refine g_bipush (v := 7) K dX12_levelsActs_22 (by decide) ?_
      refine g_ixor K dX12_levelsActs_24 ?_
      obtain rfl := Option.some.inj h
      exact hret _ _ _ _ dX12_levelsActs_25 rfl ⟨rfl, rfl⟩

set_option maxRecDepth 100000 in
theorem ctX12_levelsActs {E : gE} {m : Nat} {r : Nat → Nat} (o : Nat → Int32) (A : Nat → Nat → Int32) (x1 : Int32) {res : Int32 × ((Nat → Int32)) × Int32} (h : pX12_levelsActs (o 19) (o 20) (o 21) (A 17) (o 18) x1 = some res) : gMi yX12_levelsActs (.code yX12_levelsActs cX12_levelsActs 3 (some .int) :: gU) ({ frames := 10, cells := 0, slots := 0, locals := 276 } : Room) 0 0 E [.ref m, .int x1] (mw E m r o A) (fun v w => v = res.1 ∧ w = mw E m r (gu o 18 res.2.2) (gu A 17 res.2.1)) := by
  refine g_met_i (by decide +kernel) (Nat.le_of_ble_eq_true rfl) (fun Γ K hn hE hRm _ hret => ?_)
  subst hE
  have hlt : ∀ i, i < 3 → i < g_n Γ := fun i q => by rw [hn]; exact q
  refine g_ws (ws' := mw (g_E Γ) m r (gu o 18 (o 18)) (gu A 17 (A 17))) rfl ?_
  refine g_sub (L' := [(0, .ref m), (1, .int x1)]) [0, 1] rfl ?_
  exact wX12_levelsActs K hlt hRm hret (A 17) (o 18) x1 h

set_option maxHeartbeats 4000000 in
set_option maxRecDepth 100000 in
theorem wX12_act {Γ : gT} {m : Nat} {r : Nat → Nat} {o : Nat → Int32} {A : Nat → Nat → Int32} (K : gOK Γ cX12_act gU RX12) (hlt : ∀ i, i < 4 → i < g_n Γ) (hRm : g_R Γ = ({ frames := 11, cells := 0, slots := 0, locals := 298 } : Room)) {res : Int32 × ((Nat → Int32)) × Int32 × Int32 × Int32 × Int32} (hret : ∀ (pc : Nat) (L : List (Nat × Value)) (v : Int32) (w : va_W), decode cX12_act pc = .ok (.ireturn, 1) → narrow .int (.int v) = .int v → (v = res.1 ∧ w = mw (g_E Γ) m r (gu (gu (gu (gu o 18 res.2.2.1) 19 res.2.2.2.1) 20 res.2.2.2.2.1) 21 res.2.2.2.2.2) (gu A 17 res.2.1)) → gGO Γ 0 0 pc L [.int v] w) (a17 : (Nat → Int32)) (o18 : Int32) (o19 : Int32) (o20 : Int32) (o21 : Int32) (x1 : Int32) (x2 : Int32) (x3 : Int32) (h : pX12_act (A 1) a17 o18 o19 o20 o21 x1 x2 x3 = some res) : gGO Γ 0 0 0 [(0, .ref m), (1, .int x1), (2, .int x2), (3, .int x3)] [] (mw (g_E Γ) m r (gu (gu (gu (gu o 18 o18) 19 o19) 20 o20) 21 o21) (gu A 17 a17)) := by
    unfold pX12_act at h
    refine g_aload_n K dX12_act_0 rfl 0 rfl ?_
    refine g_iconst (v := 0) K dX12_act_1 (by decide) ?_
    refine mp_18 (w' := mw (g_E Γ) m r (gu (gu (gu (gu o 18 0) 19 o19) 20 o20) 21 o21) (gu A 17 a17)) K hin_X12 (u_997) rfl rfl dX12_act_2 rfl ?_
    refine g_aload_n K dX12_act_5 rfl 0 rfl ?_
    refine g_iload_n K dX12_act_6 rfl 1 rfl ?_
    obtain ⟨z_1, hz_1, h⟩ := gi_bd h
    refine g_callVi (As := [.int x1]) (bytes := cX12_isChief) (maxL := 2) (ret := (some .boolean)) K (ctX12_isChief (gu (gu (gu (gu o 18 0) 19 o19) 20 o20) 21 o21) (gu A 17 a17) x1 (res := z_1) hz_1) gc_V_RX12_138_X12_isChief rfl qv_X12_isChief 0 rfl rfl rfl hRm rfl rfl rfl (by decide) (Nat.le_of_ble_eq_true rfl) (by decide) dX12_act_7 (fun v w hw => ?_)
    obtain ⟨hv9, rfl⟩ := hw; have hv9 := hv9.symm; subst hv9
    obtain ⟨ht9, hf9⟩ := gi_br h; clear h
    refine g_if_eq (tgt := 22) K dX12_act_10 (by decide) (fun qh => ?_) (fun qh => ?_)
    · have h := ht9 qh; clear ht9 hf9
      refine g_iconst (v := 0) K dX12_act_22 (by decide) ?_
      obtain rfl := Option.some.inj h
      exact hret _ _ _ _ dX12_act_23 rfl ⟨rfl, rfl⟩
    · have h := hf9 qh; clear ht9 hf9
      refine g_iload_n K dX12_act_13 rfl 2 rfl ?_
      refine g_iconst (v := 0) K dX12_act_14 (by decide) ?_
      refine g_iconst (v := 2) K dX12_act_15 (by decide) ?_
      obtain ⟨z_2, hz_2, h⟩ := gi_bd h
      refine g_callSi (As := [.int x2, .int 0, .int 2]) (bytes := cX12_in) (maxL := 3) (ret := (some .boolean)) K (ctX12_in (ws := mw (g_E Γ) m r (gu (gu (gu (gu o 18 0) 19 o19) 20 o20) 21 o21) (gu A 17 a17)) x2 0 2 (res := z_2) hz_2) gc_S_RX12_50_X12_in rfl qs_X12_in hRm rfl rfl rfl (by decide) (Nat.le_of_ble_eq_true rfl) (by decide) dX12_act_16 (fun v w hw => ?_)
      obtain ⟨hv9, rfl⟩ := hw; have hv9 := hv9.symm; subst hv9
      obtain ⟨ht9, hf9⟩ := gi_br h; clear h
      refine g_if_ne (tgt := 24) K dX12_act_19 (by decide) (fun qh => ?_) (fun qh => ?_)
      · have h := hf9 qh; clear ht9 hf9
        refine g_aload_n K dX12_act_24 rfl 0 rfl ?_
        refine g_aload_n K dX12_act_25 rfl 0 rfl ?_
        refine mg_1 K hin_X12 (u_980) dX12_act_26 ?_
        refine g_bipush (v := 60) K dX12_act_29 (by decide) ?_
        refine g_iload_n K dX12_act_31 rfl 1 rfl ?_
        refine g_iadd K dX12_act_32 ?_
        obtain ⟨b_3, h⟩ := gi_none h
        refine g_iald (f := (A 1)) K 1 rfl (ginb_in b_3) dX12_act_33 ?_
        refine mp_19 (w' := mw (g_E Γ) m r (gu (gu (gu (gu o 18 0) 19 ((A 1) (Int32.toNatClampNeg (60 + x1)))) 20 o20) 21 o21) (gu A 17 a17)) K hin_X12 (u_998) rfl rfl dX12_act_34 rfl ?_
        refine g_aload_n K dX12_act_37 rfl 0 rfl ?_
        refine g_iload_n K dX12_act_38 rfl 1 rfl ?_
        refine mp_20 (w' := mw (g_E Γ) m r (gu (gu (gu (gu o 18 0) 19 ((A 1) (Int32.toNatClampNeg (60 + x1)))) 20 x1) 21 o21) (gu A 17 a17)) K hin_X12 (u_999) rfl rfl dX12_act_39 rfl ?_
        refine g_aload_n K dX12_act_42 rfl 0 rfl ?_
        refine g_aload_n K dX12_act_43 rfl 0 rfl ?_
        refine mg_1 K hin_X12 (u_980) dX12_act_44 ?_
        refine g_bipush (v := 64) K dX12_act_47 (by decide) ?_
        refine g_iload_n K dX12_act_49 rfl 1 rfl ?_
        refine g_iadd K dX12_act_50 ?_
        obtain ⟨b_4, h⟩ := gi_none h
        refine g_iald (f := (A 1)) K 1 rfl (ginb_in b_4) dX12_act_51 ?_
        refine mp_21 (w' := mw (g_E Γ) m r (gu (gu (gu (gu o 18 0) 19 ((A 1) (Int32.toNatClampNeg (60 + x1)))) 20 x1) 21 ((A 1) (Int32.toNatClampNeg (64 + x1)))) (gu A 17 a17)) K hin_X12 (u_1000) rfl rfl dX12_act_52 rfl ?_
        refine g_iload_n K dX12_act_55 rfl 2 rfl ?_
        obtain ⟨ht9, hf9⟩ := gi_br h; clear h
        refine g_if_ne (tgt := 67) K dX12_act_56 (by decide) (fun qh => ?_) (fun qh => ?_)
        · have h := hf9 qh; clear ht9 hf9
          refine g_iload_n K dX12_act_67 rfl 2 rfl ?_
          refine g_iconst (v := 1) K dX12_act_68 (by decide) ?_
          obtain ⟨ht9, hf9⟩ := gi_br h; clear h
          refine g_icmp_ne (tgt := 80) K dX12_act_69 (by decide) (fun qh => ?_) (fun qh => ?_)
          · have h := hf9 qh; clear ht9 hf9
            refine g_aload_n K dX12_act_80 rfl 0 rfl ?_
            refine g_iload_n K dX12_act_81 rfl 3 rfl ?_
            obtain ⟨z_5, hz_5, h⟩ := gi_bd h
            refine g_callVi (As := [.int x3]) (bytes := cX12_levelsActs) (maxL := 3) (ret := (some .int)) K (ctX12_levelsActs (gu (gu (gu (gu o 18 0) 19 ((A 1) (Int32.toNatClampNeg (60 + x1)))) 20 x1) 21 ((A 1) (Int32.toNatClampNeg (64 + x1)))) (gu A 17 a17) x3 (res := z_5) hz_5) gc_V_RX12_275_X12_levelsActs rfl qv_X12_levelsActs 0 rfl rfl rfl hRm rfl rfl rfl (by decide) (Nat.le_of_ble_eq_true rfl) (by decide) dX12_act_82 (fun v w hw => ?_)
            obtain ⟨hv9, rfl⟩ := hw; have hv9 := hv9.symm; subst hv9
            refine g_ws (ws' := mw (g_E Γ) m r (gu (gu (gu (gu o 18 z_5.2.2) 19 ((A 1) (Int32.toNatClampNeg (60 + x1)))) 20 x1) 21 ((A 1) (Int32.toNatClampNeg (64 + x1)))) (gu A 17 z_5.2.1)) rfl ?_
            obtain rfl := Option.some.inj h
            exact hret _ _ _ _ dX12_act_85 rfl ⟨rfl, rfl⟩
          · have h := ht9 qh; clear ht9 hf9
            refine g_aload_n K dX12_act_72 rfl 0 rfl ?_
            refine g_iload_n K dX12_act_73 rfl 3 rfl ?_
            obtain ⟨z_6, hz_6, h⟩ := gi_bd h
            refine g_callVi (As := [.int x3]) (bytes := cX12_gradesActs) (maxL := 2) (ret := (some .int)) K (ctX12_gradesActs (gu (gu (gu (gu o 18 0) 19 ((A 1) (Int32.toNatClampNeg (60 + x1)))) 20 x1) 21 ((A 1) (Int32.toNatClampNeg (64 + x1)))) (gu A 17 a17) x3 (res := z_6) hz_6) gc_V_RX12_269_X12_gradesActs rfl qv_X12_gradesActs 0 rfl rfl rfl hRm rfl rfl rfl (by decide) (Nat.le_of_ble_eq_true rfl) (by decide) dX12_act_74 (fun v w hw => ?_)
            obtain ⟨hv9, rfl⟩ := hw; have hv9 := hv9.symm; subst hv9
            refine g_ws (ws' := mw (g_E Γ) m r (gu (gu (gu (gu o 18 z_6.2.2) 19 ((A 1) (Int32.toNatClampNeg (60 + x1)))) 20 x1) 21 ((A 1) (Int32.toNatClampNeg (64 + x1)))) (gu A 17 z_6.2.1)) rfl ?_
            refine g_goto (tgt := 85) K dX12_act_77 (by decide) ?_
            obtain rfl := Option.some.inj h
            exact hret _ _ _ _ dX12_act_85 rfl ⟨rfl, rfl⟩
        · have h := ht9 qh; clear ht9 hf9
          refine g_aload_n K dX12_act_59 rfl 0 rfl ?_
          refine g_iload_n K dX12_act_60 rfl 3 rfl ?_
          obtain ⟨z_7, hz_7, h⟩ := gi_bd h
          refine g_callVi (As := [.int x3]) (bytes := cX12_worksActs) (maxL := 2) (ret := (some .int)) K (ctX12_worksActs (gu (gu (gu (gu o 18 0) 19 ((A 1) (Int32.toNatClampNeg (60 + x1)))) 20 x1) 21 ((A 1) (Int32.toNatClampNeg (64 + x1)))) (gu A 17 a17) x3 (res := z_7) hz_7) gc_V_RX12_260_X12_worksActs rfl qv_X12_worksActs 0 rfl rfl rfl hRm rfl rfl rfl (by decide) (Nat.le_of_ble_eq_true rfl) (by decide) dX12_act_61 (fun v w hw => ?_)
          obtain ⟨hv9, rfl⟩ := hw; have hv9 := hv9.symm; subst hv9
          refine g_ws (ws' := mw (g_E Γ) m r (gu (gu (gu (gu o 18 z_7.2.2) 19 ((A 1) (Int32.toNatClampNeg (60 + x1)))) 20 x1) 21 ((A 1) (Int32.toNatClampNeg (64 + x1)))) (gu A 17 z_7.2.1)) rfl ?_
          refine g_goto (tgt := 85) K dX12_act_64 (by decide) ?_
          obtain rfl := Option.some.inj h
          exact hret _ _ _ _ dX12_act_85 rfl ⟨rfl, rfl⟩
      · have h := ht9 qh; clear ht9 hf9
        refine g_iconst (v := 0) K dX12_act_22 (by decide) ?_
        obtain rfl := Option.some.inj h
        exact hret _ _ _ _ dX12_act_23 rfl ⟨rfl, rfl⟩

set_option maxRecDepth 100000 in
theorem ctX12_act {E : gE} {m : Nat} {r : Nat → Nat} (o : Nat → Int32) (A : Nat → Nat → Int32) (x1 : Int32) (x2 : Int32) (x3 : Int32) {res : Int32 × ((Nat → Int32)) × Int32 × Int32 × Int32 × Int32} (h : pX12_act (A 1) (A 17) (o 18) (o 19) (o 20) (o 21) x1 x2 x3 = some res) : gMi yX12_act (.code yX12_act cX12_act 4 (some .int) :: gU) ({ frames := 11, cells := 0, slots := 0, locals := 298 } : Room) 0 0 E [.ref m, .int x1, .int x2, .int x3] (mw E m r o A) (fun v w => v = res.1 ∧ w = mw E m r (gu (gu (gu (gu o 18 res.2.2.1) 19 res.2.2.2.1) 20 res.2.2.2.2.1) 21 res.2.2.2.2.2) (gu A 17 res.2.1)) := by
  refine g_met_i (by decide +kernel) (Nat.le_of_ble_eq_true rfl) (fun Γ K hn hE hRm _ hret => ?_)
  subst hE
  have hlt : ∀ i, i < 4 → i < g_n Γ := fun i q => by rw [hn]; exact q
  refine g_ws (ws' := mw (g_E Γ) m r (gu (gu (gu (gu o 18 (o 18)) 19 (o 19)) 20 (o 20)) 21 (o 21)) (gu A 17 (A 17))) rfl ?_
  refine g_sub (L' := [(0, .ref m), (1, .int x1), (2, .int x2), (3, .int x3)]) [0, 1, 2, 3] rfl ?_
  exact wX12_act K hlt hRm hret (A 17) (o 18) (o 19) (o 20) (o 21) x1 x2 x3 h

set_option maxHeartbeats 4000000 in
set_option maxRecDepth 100000 in
theorem wX12_trace_20 {Γ : gT} {m : Nat} {r : Nat → Nat} {o : Nat → Int32} {A : Nat → Nat → Int32} (K : gOK Γ cX12_trace gU RX12) (hlt : ∀ i, i < 2 → i < g_n Γ) (hRm : g_R Γ = ({ frames := 5, cells := 0, slots := 0, locals := 172 } : Room)) {res : Int32} (hret : ∀ (pc : Nat) (L : List (Nat × Value)) (v : Int32) (w : va_W), decode cX12_trace pc = .ok (.ireturn, 1) → narrow .int (.int v) = .int v → (v = res ∧ w = mw (g_E Γ) m r o A) → gGO Γ 0 0 pc L [.int v] w) (x1 : Int32) (y0 : Int32) (y1 : Int32) (y2 : Int32) (h : pX12_trace_20 (A 17) (o 18) x1 y0 y1 y2 = some res) : gGO Γ 0 0 20 [(0, .ref m), (1, .int x1)] [.int y2, .int y1, .int y0] (mw (g_E Γ) m r o A) := by
    unfold pX12_trace_20 at h
    refine g_iconst (v := 1) K dX12_trace_20 (by decide) ?_
    refine g_isub K dX12_trace_21 ?_
    obtain ⟨z_1, hz_1, h⟩ := gi_bd h
    refine g_callSi (As := [.int y0, .int y1, .int (y2 - 1)]) (bytes := cX12_in) (maxL := 3) (ret := (some .boolean)) K (ctX12_in (ws := mw (g_E Γ) m r o A) y0 y1 (y2 - 1) (res := z_1) hz_1) gc_S_RX12_50_X12_in rfl qs_X12_in hRm rfl rfl rfl (by decide) (Nat.le_of_ble_eq_true rfl) (by decide) dX12_trace_22 (fun v w hw => ?_)
    obtain ⟨hv9, rfl⟩ := hw; have hv9 := hv9.symm; subst hv9
    obtain ⟨ht9, hf9⟩ := gi_br h; clear h
    refine g_if_eq (tgt := 37) K dX12_trace_25 (by decide) (fun qh => ?_) (fun qh => ?_)
    · have h := ht9 qh; clear ht9 hf9
      refine g_iconst (v := (-1)) K dX12_trace_37 (by decide) ?_
      obtain rfl := Option.some.inj h
      exact hret _ _ _ _ dX12_trace_38 rfl ⟨rfl, rfl⟩
    · have h := hf9 qh; clear ht9 hf9
      refine g_aload_n K dX12_trace_28 rfl 0 rfl ?_
      refine mg_17 K hin_X12 (u_996) dX12_trace_29 ?_
      refine g_iload_n K dX12_trace_32 rfl 1 rfl ?_
      obtain ⟨b_2, h⟩ := gi_none h
      refine g_iald (f := (A 17)) K 11 rfl (ginb_in b_2) dX12_trace_33 ?_
      refine g_goto (tgt := 38) K dX12_trace_34 (by decide) ?_
      obtain rfl := Option.some.inj h
      exact hret _ _ _ _ dX12_trace_38 rfl ⟨rfl, rfl⟩

set_option maxHeartbeats 4000000 in
set_option maxRecDepth 100000 in
theorem wX12_trace {Γ : gT} {m : Nat} {r : Nat → Nat} {o : Nat → Int32} {A : Nat → Nat → Int32} (K : gOK Γ cX12_trace gU RX12) (hlt : ∀ i, i < 2 → i < g_n Γ) (hRm : g_R Γ = ({ frames := 5, cells := 0, slots := 0, locals := 172 } : Room)) {res : Int32} (hret : ∀ (pc : Nat) (L : List (Nat × Value)) (v : Int32) (w : va_W), decode cX12_trace pc = .ok (.ireturn, 1) → narrow .int (.int v) = .int v → (v = res ∧ w = mw (g_E Γ) m r o A) → gGO Γ 0 0 pc L [.int v] w) (x1 : Int32) (h : pX12_trace (A 17) (o 18) x1 = some res) : gGO Γ 0 0 0 [(0, .ref m), (1, .int x1)] [] (mw (g_E Γ) m r o A) := by
    unfold pX12_trace at h
    refine g_iload_n K dX12_trace_0 rfl 1 rfl ?_
    refine g_iconst (v := 0) K dX12_trace_1 (by decide) ?_
    refine g_aload_n K dX12_trace_2 rfl 0 rfl ?_
    refine mg_18 (v := (o 18)) K hin_X12 (u_997) rfl dX12_trace_3 ?_
    refine g_bipush (v := 20) K dX12_trace_6 (by decide) ?_
    obtain ⟨ht9, hf9⟩ := gi_br h; clear h
    refine g_icmp_ge (tgt := 18) K dX12_trace_8 (by decide) (fun qh => ?_) (fun qh => ?_)
    · have h := ht9 qh; clear ht9 hf9
      refine g_bipush (v := 20) K dX12_trace_18 (by decide) ?_
      exact wX12_trace_20 K hlt hRm hret x1 x1 0 20 h
    · have h := hf9 qh; clear ht9 hf9
      refine g_aload_n K dX12_trace_11 rfl 0 rfl ?_
      refine mg_18 (v := (o 18)) K hin_X12 (u_997) rfl dX12_trace_12 ?_
      refine g_goto (tgt := 20) K dX12_trace_15 (by decide) ?_
      exact wX12_trace_20 K hlt hRm hret x1 x1 0 (o 18) h

set_option maxRecDepth 100000 in
theorem ctX12_trace {E : gE} {m : Nat} {r : Nat → Nat} (o : Nat → Int32) (A : Nat → Nat → Int32) (x1 : Int32) {res : Int32} (h : pX12_trace (A 17) (o 18) x1 = some res) : gMi yX12_trace (.code yX12_trace cX12_trace 2 (some .int) :: gU) ({ frames := 5, cells := 0, slots := 0, locals := 172 } : Room) 0 0 E [.ref m, .int x1] (mw E m r o A) (fun v w => v = res ∧ w = mw E m r o A) := by
  refine g_met_i (by decide +kernel) (Nat.le_of_ble_eq_true rfl) (fun Γ K hn hE hRm _ hret => ?_)
  subst hE
  have hlt : ∀ i, i < 2 → i < g_n Γ := fun i q => by rw [hn]; exact q
  refine g_sub (L' := [(0, .ref m), (1, .int x1)]) [0, 1] rfl ?_
  exact wX12_trace K hlt hRm hret x1 h

set_option maxHeartbeats 4000000 in
set_option maxRecDepth 100000 in
theorem wX12_as {Γ : gT} {m : Nat} {r : Nat → Nat} {o : Nat → Int32} {A : Nat → Nat → Int32} (K : gOK Γ cX12_as gU RX12) (hlt : ∀ i, i < 3 → i < g_n Γ) (hRm : g_R Γ = ({ frames := 6, cells := 0, slots := 0, locals := 193 } : Room)) {res : Int32} (hret : ∀ (pc : Nat) (L : List (Nat × Value)) (v : Int32) (w : va_W), decode cX12_as pc = .ok (.ireturn, 1) → narrow .int (.int v) = .int v → (v = res ∧ w = mw (g_E Γ) m r o A) → gGO Γ 0 0 pc L [.int v] w) (x1 : Int32) (x2 : Int32) (h : pX12_as (A 1) x1 x2 = some res) : gGO Γ 0 0 0 [(0, .ref m), (1, .int x1), (2, .int x2)] [] (mw (g_E Γ) m r o A) := by
    unfold pX12_as at h
    refine g_aload_n K dX12_as_0 rfl 0 rfl ?_
    refine g_iload_n K dX12_as_1 rfl 1 rfl ?_
    obtain ⟨z_1, hz_1, h⟩ := gi_bd h
    refine g_callVi (As := [.int x1]) (bytes := cX12_isChief) (maxL := 2) (ret := (some .boolean)) K (ctX12_isChief o A x1 (res := z_1) hz_1) gc_V_RX12_138_X12_isChief rfl qv_X12_isChief 0 rfl rfl rfl hRm rfl rfl rfl (by decide) (Nat.le_of_ble_eq_true rfl) (by decide) dX12_as_2 (fun v w hw => ?_)
    obtain ⟨hv9, rfl⟩ := hw; have hv9 := hv9.symm; subst hv9
    obtain ⟨ht9, hf9⟩ := gi_br h; clear h
    refine g_if_eq (tgt := 18) K dX12_as_5 (by decide) (fun qh => ?_) (fun qh => ?_)
    · have h := ht9 qh; clear ht9 hf9
      refine g_iconst (v := (-1)) K dX12_as_18 (by decide) ?_
      obtain rfl := Option.some.inj h
      exact hret _ _ _ _ dX12_as_19 rfl ⟨rfl, rfl⟩
    · have h := hf9 qh; clear ht9 hf9
      refine g_iload_n K dX12_as_8 rfl 2 rfl ?_
      refine g_iconst (v := 0) K dX12_as_9 (by decide) ?_
      refine g_bipush (v := 6) K dX12_as_10 (by decide) ?_
      obtain ⟨z_2, hz_2, h⟩ := gi_bd h
      refine g_callSi (As := [.int x2, .int 0, .int 6]) (bytes := cX12_in) (maxL := 3) (ret := (some .boolean)) K (ctX12_in (ws := mw (g_E Γ) m r o A) x2 0 6 (res := z_2) hz_2) gc_S_RX12_50_X12_in rfl qs_X12_in hRm rfl rfl rfl (by decide) (Nat.le_of_ble_eq_true rfl) (by decide) dX12_as_12 (fun v w hw => ?_)
      obtain ⟨hv9, rfl⟩ := hw; have hv9 := hv9.symm; subst hv9
      obtain ⟨ht9, hf9⟩ := gi_br h; clear h
      refine g_if_ne (tgt := 20) K dX12_as_15 (by decide) (fun qh => ?_) (fun qh => ?_)
      · have h := hf9 qh; clear ht9 hf9
        refine g_aload_n K dX12_as_20 rfl 0 rfl ?_
        refine mg_1 K hin_X12 (u_980) dX12_as_21 ?_
        refine g_bipush (v := 60) K dX12_as_24 (by decide) ?_
        refine g_iload_n K dX12_as_26 rfl 1 rfl ?_
        refine g_iadd K dX12_as_27 ?_
        obtain ⟨b_3, h⟩ := gi_none h
        refine g_iald (f := (A 1)) K 1 rfl (ginb_in b_3) dX12_as_28 ?_
        refine g_iload_n K dX12_as_29 rfl 2 rfl ?_
        obtain ⟨z_4, hz_4, h⟩ := gi_bd h
        refine g_callSi (As := [.int ((A 1) (Int32.toNatClampNeg (60 + x1))), .int x2]) (bytes := cX12_isUnder) (maxL := 2) (ret := (some .boolean)) K (ctX12_isUnder (ws := mw (g_E Γ) m r o A) ((A 1) (Int32.toNatClampNeg (60 + x1))) x2 (res := z_4) hz_4) gc_S_RX12_254_X12_isUnder rfl qs_X12_isUnder hRm rfl rfl rfl (by decide) (Nat.le_of_ble_eq_true rfl) (by decide) dX12_as_30 (fun v w hw => ?_)
        obtain ⟨hv9, rfl⟩ := hw; have hv9 := hv9.symm; subst hv9
        obtain ⟨ht9, hf9⟩ := gi_br h; clear h
        refine g_if_eq (tgt := 48) K dX12_as_33 (by decide) (fun qh => ?_) (fun qh => ?_)
        · have h := ht9 qh; clear ht9 hf9
          refine g_bipush (v := (-6)) K dX12_as_48 (by decide) ?_
          obtain rfl := Option.some.inj h
          exact hret _ _ _ _ dX12_as_50 rfl ⟨rfl, rfl⟩
        · have h := hf9 qh; clear ht9 hf9
          refine g_aload_n K dX12_as_36 rfl 0 rfl ?_
          refine mg_1 K hin_X12 (u_980) dX12_as_37 ?_
          refine g_bipush (v := 64) K dX12_as_40 (by decide) ?_
          refine g_iload_n K dX12_as_42 rfl 1 rfl ?_
          refine g_iadd K dX12_as_43 ?_
          obtain ⟨b_5, h⟩ := gi_none h
          refine g_iald (f := (A 1)) K 1 rfl (ginb_in b_5) dX12_as_44 ?_
          refine g_goto (tgt := 50) K dX12_as_45 (by decide) ?_
          obtain rfl := Option.some.inj h
          exact hret _ _ _ _ dX12_as_50 rfl ⟨rfl, rfl⟩
      · have h := ht9 qh; clear ht9 hf9
        refine g_iconst (v := (-1)) K dX12_as_18 (by decide) ?_
        obtain rfl := Option.some.inj h
        exact hret _ _ _ _ dX12_as_19 rfl ⟨rfl, rfl⟩

set_option maxRecDepth 100000 in
theorem ctX12_as {E : gE} {m : Nat} {r : Nat → Nat} (o : Nat → Int32) (A : Nat → Nat → Int32) (x1 : Int32) (x2 : Int32) {res : Int32} (h : pX12_as (A 1) x1 x2 = some res) : gMi yX12_as (.code yX12_as cX12_as 3 (some .int) :: gU) ({ frames := 6, cells := 0, slots := 0, locals := 193 } : Room) 0 0 E [.ref m, .int x1, .int x2] (mw E m r o A) (fun v w => v = res ∧ w = mw E m r o A) := by
  refine g_met_i (by decide +kernel) (Nat.le_of_ble_eq_true rfl) (fun Γ K hn hE hRm _ hret => ?_)
  subst hE
  have hlt : ∀ i, i < 3 → i < g_n Γ := fun i q => by rw [hn]; exact q
  refine g_sub (L' := [(0, .ref m), (1, .int x1), (2, .int x2)]) [0, 1, 2] rfl ?_
  exact wX12_as K hlt hRm hret x1 x2 h

set_option maxHeartbeats 4000000 in
set_option maxRecDepth 100000 in
theorem wX12_image_2 {Γ : gT} {m : Nat} {r : Nat → Nat} {o : Nat → Int32} {A : Nat → Nat → Int32} (K : gOK Γ cX12_image gU RX12) (hlt : ∀ i, i < 2 → i < g_n Γ) (hRm : g_R Γ = ({ frames := 4, cells := 0, slots := 0, locals := 150 } : Room)) {res : Int32 × ((Nat → Int32)) × Int32} (hret : ∀ (pc : Nat) (L : List (Nat × Value)) (v : Int32) (w : va_W), decode cX12_image pc = .ok (.ireturn, 1) → narrow .int (.int v) = .int v → (v = res.1 ∧ w = mw (g_E Γ) m r (gu o 4 res.2.2) (gu A 2 res.2.1)) → gGO Γ 0 0 pc L [.int v] w) : ∀ (n : Nat) (a2 : (Nat → Int32)) (o4 : Int32) (x1 : Int32), pX12_image_2 (A 1) n a2 o4 x1 = some res → gGO Γ 0 0 2 [(0, .ref m), (1, .int x1)] [] (mw (g_E Γ) m r (gu o 4 o4) (gu A 2 a2)) := by
  intro n
  induction n with
  | zero => intro _ _ _ h; cases h
  | succ n ih =>
    intro a2 o4 x1 h
    simp only [pX12_image_2] at h
    refine g_iload_n K dX12_image_2 rfl 1 rfl ?_
    refine g_sipush (v := 952) K dX12_image_3 (by decide) ?_
    obtain ⟨ht9, hf9⟩ := gi_br h; clear h
    refine g_icmp_ge (tgt := 27) K dX12_image_6 (by decide) (fun qh => ?_) (fun qh => ?_)
    · have h := ht9 qh; clear ht9 hf9
      refine g_aload_n K dX12_image_27 rfl 0 rfl ?_
      refine g_iconst (v := 1) K dX12_image_28 (by decide) ?_
      refine mp_4 (w' := mw (g_E Γ) m r (gu o 4 1) (gu A 2 a2)) K hin_X12 (u_983) (by decide) (by decide) dX12_image_29 rfl ?_
      refine g_aload_n K dX12_image_32 rfl 0 rfl ?_
      refine mg_1 K hin_X12 (u_980) dX12_image_33 ?_
      refine g_bipush (v := 51) K dX12_image_36 (by decide) ?_
      obtain ⟨b_1, h⟩ := gi_none h
      refine g_iald (f := (A 1)) K 1 rfl (ginb_in b_1) dX12_image_38 ?_
      obtain rfl := Option.some.inj h
      exact hret _ _ _ _ dX12_image_39 rfl ⟨rfl, rfl⟩
    · have h := hf9 qh; clear ht9 hf9
      refine g_aload_n K dX12_image_9 rfl 0 rfl ?_
      refine mg_2 K hin_X12 (u_981) dX12_image_10 ?_
      refine g_iload_n K dX12_image_13 rfl 1 rfl ?_
      refine g_aload_n K dX12_image_14 rfl 0 rfl ?_
      refine mg_1 K hin_X12 (u_980) dX12_image_15 ?_
      refine g_iload_n K dX12_image_18 rfl 1 rfl ?_
      obtain ⟨b_2, h⟩ := gi_none h
      refine g_iald (f := (A 1)) K 1 rfl (ginb_in b_2) dX12_image_19 ?_
      obtain ⟨b_3, h⟩ := gi_none h
      obtain ⟨f_4, ef_4, h⟩ := gi_nm h
      refine g_iast (f := a2) (ws' := mw (g_E Γ) m r (gu o 4 o4) (gu A 2 f_4)) K 2 rfl (ginb_in b_3) dX12_image_20 (by rw [ef_4]; rfl) ?_
      refine g_iinc (v := (x1 + 1)) (L' := [(1, .int (x1 + 1)), (0, .ref m)]) K dX12_image_21 1 rfl rfl (hlt _ (by decide)) rfl ?_
      refine g_goto (tgt := 2) K dX12_image_24 (by decide) ?_
      refine g_sub (L' := [(0, .ref m), (1, .int (x1 + 1))]) [1, 0] rfl ?_
      exact ih f_4 o4 (x1 + 1) h

set_option maxHeartbeats 4000000 in
set_option maxRecDepth 100000 in
theorem wX12_image {Γ : gT} {m : Nat} {r : Nat → Nat} {o : Nat → Int32} {A : Nat → Nat → Int32} (K : gOK Γ cX12_image gU RX12) (hlt : ∀ i, i < 2 → i < g_n Γ) (hRm : g_R Γ = ({ frames := 4, cells := 0, slots := 0, locals := 150 } : Room)) {res : Int32 × ((Nat → Int32)) × Int32} (hret : ∀ (pc : Nat) (L : List (Nat × Value)) (v : Int32) (w : va_W), decode cX12_image pc = .ok (.ireturn, 1) → narrow .int (.int v) = .int v → (v = res.1 ∧ w = mw (g_E Γ) m r (gu o 4 res.2.2) (gu A 2 res.2.1)) → gGO Γ 0 0 pc L [.int v] w) (a2 : (Nat → Int32)) (o4 : Int32) (h : pX12_image (A 1) a2 o4 = some res) : gGO Γ 0 0 0 [(0, .ref m)] [] (mw (g_E Γ) m r (gu o 4 o4) (gu A 2 a2)) := by
    unfold pX12_image at h
    refine g_iconst (v := 0) K dX12_image_0 (by decide) ?_
    refine g_istore_n (L' := [(1, .int 0), (0, .ref m)]) K dX12_image_1 rfl (hlt _ (by decide)) rfl ?_
    refine g_sub (L' := [(0, .ref m), (1, .int 0)]) [1, 0] rfl ?_
    exact wX12_image_2 K hlt hRm hret 1000 a2 o4 0 h

set_option maxRecDepth 100000 in
theorem ctX12_image {E : gE} {m : Nat} {r : Nat → Nat} (o : Nat → Int32) (A : Nat → Nat → Int32) {res : Int32 × ((Nat → Int32)) × Int32} (h : pX12_image (A 1) (A 2) (o 4) = some res) : gMi yX12_image (.code yX12_image cX12_image 2 (some .int) :: gU) ({ frames := 4, cells := 0, slots := 0, locals := 150 } : Room) 0 0 E [.ref m] (mw E m r o A) (fun v w => v = res.1 ∧ w = mw E m r (gu o 4 res.2.2) (gu A 2 res.2.1)) := by
  refine g_met_i (by decide +kernel) (Nat.le_of_ble_eq_true rfl) (fun Γ K hn hE hRm _ hret => ?_)
  subst hE
  have hlt : ∀ i, i < 2 → i < g_n Γ := fun i q => by rw [hn]; exact q
  refine g_ws (ws' := mw (g_E Γ) m r (gu o 4 (o 4)) (gu A 2 (A 2))) rfl ?_
  refine g_sub (L' := [(0, .ref m)]) [0] rfl ?_
  exact wX12_image K hlt hRm hret (A 2) (o 4) h

set_option maxHeartbeats 4000000 in
set_option maxRecDepth 100000 in
theorem wX12_undo_12 {Γ : gT} {m : Nat} {r : Nat → Nat} {o : Nat → Int32} {A : Nat → Nat → Int32} (K : gOK Γ cX12_undo gU RX12) (hlt : ∀ i, i < 2 → i < g_n Γ) (hRm : g_R Γ = ({ frames := 4, cells := 0, slots := 0, locals := 150 } : Room)) {res : Int32 × ((Nat → Int32))} (hret : ∀ (pc : Nat) (L : List (Nat × Value)) (v : Int32) (w : va_W), decode cX12_undo pc = .ok (.ireturn, 1) → narrow .int (.int v) = .int v → (v = res.1 ∧ w = mw (g_E Γ) m r o (gu A 1 res.2)) → gGO Γ 0 0 pc L [.int v] w) : ∀ (n : Nat) (a1 : (Nat → Int32)) (x1 : Int32), pX12_undo_12 (A 2) (o 4) n a1 x1 = some res → gGO Γ 0 0 12 [(0, .ref m), (1, .int x1)] [] (mw (g_E Γ) m r o (gu A 1 a1)) := by
  intro n
  induction n with
  | zero => intro _ _ h; cases h
  | succ n ih =>
    intro a1 x1 h
    simp only [pX12_undo_12] at h
    refine g_iload_n K dX12_undo_12 rfl 1 rfl ?_
    refine g_sipush (v := 952) K dX12_undo_13 (by decide) ?_
    obtain ⟨ht9, hf9⟩ := gi_br h; clear h
    refine g_icmp_ge (tgt := 37) K dX12_undo_16 (by decide) (fun qh => ?_) (fun qh => ?_)
    · have h := ht9 qh; clear ht9 hf9
      refine g_aload_n K dX12_undo_37 rfl 0 rfl ?_
      refine mg_1 K hin_X12 (u_980) dX12_undo_38 ?_
      refine g_bipush (v := 51) K dX12_undo_41 (by decide) ?_
      obtain ⟨b_1, h⟩ := gi_none h
      refine g_iald (f := a1) K 1 rfl (ginb_in b_1) dX12_undo_43 ?_
      obtain rfl := Option.some.inj h
      exact hret _ _ _ _ dX12_undo_44 rfl ⟨rfl, rfl⟩
    · have h := hf9 qh; clear ht9 hf9
      refine g_aload_n K dX12_undo_19 rfl 0 rfl ?_
      refine mg_1 K hin_X12 (u_980) dX12_undo_20 ?_
      refine g_iload_n K dX12_undo_23 rfl 1 rfl ?_
      refine g_aload_n K dX12_undo_24 rfl 0 rfl ?_
      refine mg_2 K hin_X12 (u_981) dX12_undo_25 ?_
      refine g_iload_n K dX12_undo_28 rfl 1 rfl ?_
      obtain ⟨b_2, h⟩ := gi_none h
      refine g_iald (f := (A 2)) K 2 rfl (ginb_in b_2) dX12_undo_29 ?_
      obtain ⟨b_3, h⟩ := gi_none h
      obtain ⟨f_4, ef_4, h⟩ := gi_nm h
      refine g_iast (f := a1) (ws' := mw (g_E Γ) m r o (gu A 1 f_4)) K 1 rfl (ginb_in b_3) dX12_undo_30 (by rw [ef_4]; rfl) ?_
      refine g_iinc (v := (x1 + 1)) (L' := [(1, .int (x1 + 1)), (0, .ref m)]) K dX12_undo_31 1 rfl rfl (hlt _ (by decide)) rfl ?_
      refine g_goto (tgt := 12) K dX12_undo_34 (by decide) ?_
      refine g_sub (L' := [(0, .ref m), (1, .int (x1 + 1))]) [1, 0] rfl ?_
      exact ih f_4 (x1 + 1) h

set_option maxHeartbeats 4000000 in
set_option maxRecDepth 100000 in
theorem wX12_undo {Γ : gT} {m : Nat} {r : Nat → Nat} {o : Nat → Int32} {A : Nat → Nat → Int32} (K : gOK Γ cX12_undo gU RX12) (hlt : ∀ i, i < 2 → i < g_n Γ) (hRm : g_R Γ = ({ frames := 4, cells := 0, slots := 0, locals := 150 } : Room)) {res : Int32 × ((Nat → Int32))} (hret : ∀ (pc : Nat) (L : List (Nat × Value)) (v : Int32) (w : va_W), decode cX12_undo pc = .ok (.ireturn, 1) → narrow .int (.int v) = .int v → (v = res.1 ∧ w = mw (g_E Γ) m r o (gu A 1 res.2)) → gGO Γ 0 0 pc L [.int v] w) (a1 : (Nat → Int32)) (h : pX12_undo (A 2) (o 4) a1 = some res) : gGO Γ 0 0 0 [(0, .ref m)] [] (mw (g_E Γ) m r o (gu A 1 a1)) := by
    unfold pX12_undo at h
    refine g_aload_n K dX12_undo_0 rfl 0 rfl ?_
    refine mg_4 (v := (o 4)) K hin_X12 (u_983) rfl dX12_undo_1 ?_
    obtain ⟨ht9, hf9⟩ := gi_br h; clear h
    refine g_if_ne (tgt := 10) K dX12_undo_4 (by decide) (fun qh => ?_) (fun qh => ?_)
    · have h := hf9 qh; clear ht9 hf9
      refine g_iconst (v := 0) K dX12_undo_10 (by decide) ?_
      refine g_istore_n (L' := [(1, .int 0), (0, .ref m)]) K dX12_undo_11 rfl (hlt _ (by decide)) rfl ?_
      refine g_sub (L' := [(0, .ref m), (1, .int 0)]) [1, 0] rfl ?_
      exact wX12_undo_12 K hlt hRm hret 1000 a1 0 h
    · have h := ht9 qh; clear ht9 hf9
      refine g_bipush (v := (-3)) K dX12_undo_7 (by decide) ?_
      obtain rfl := Option.some.inj h
      exact hret _ _ _ _ dX12_undo_9 rfl ⟨rfl, rfl⟩

set_option maxRecDepth 100000 in
theorem ctX12_undo {E : gE} {m : Nat} {r : Nat → Nat} (o : Nat → Int32) (A : Nat → Nat → Int32) {res : Int32 × ((Nat → Int32))} (h : pX12_undo (A 2) (o 4) (A 1) = some res) : gMi yX12_undo (.code yX12_undo cX12_undo 2 (some .int) :: gU) ({ frames := 4, cells := 0, slots := 0, locals := 150 } : Room) 0 0 E [.ref m] (mw E m r o A) (fun v w => v = res.1 ∧ w = mw E m r o (gu A 1 res.2)) := by
  refine g_met_i (by decide +kernel) (Nat.le_of_ble_eq_true rfl) (fun Γ K hn hE hRm _ hret => ?_)
  subst hE
  have hlt : ∀ i, i < 2 → i < g_n Γ := fun i q => by rw [hn]; exact q
  refine g_ws (ws' := mw (g_E Γ) m r o (gu A 1 (A 1))) rfl ?_
  refine g_sub (L' := [(0, .ref m)]) [0] rfl ?_
  exact wX12_undo K hlt hRm hret (A 1) h

set_option maxHeartbeats 4000000 in
set_option maxRecDepth 100000 in
theorem wX12_count {Γ : gT} {m : Nat} {r : Nat → Nat} {o : Nat → Int32} {A : Nat → Nat → Int32} (K : gOK Γ cX12_count gU RX12) (hlt : ∀ i, i < 2 → i < g_n Γ) (hRm : g_R Γ = ({ frames := 4, cells := 0, slots := 0, locals := 150 } : Room)) {res : Int32} (hret : ∀ (pc : Nat) (L : List (Nat × Value)) (v : Int32) (w : va_W), decode cX12_count pc = .ok (.ireturn, 1) → narrow .int (.int v) = .int v → (v = res ∧ w = mw (g_E Γ) m r o A) → gGO Γ 0 0 pc L [.int v] w) (x1 : Int32) (h : pX12_count (A 1) (o 18) x1 = some res) : gGO Γ 0 0 0 [(0, .ref m), (1, .int x1)] [] (mw (g_E Γ) m r o A) := by
    unfold pX12_count at h
    refine g_iload_n K dX12_count_0 rfl 1 rfl ?_
    obtain ⟨ht9, hf9⟩ := gi_br h; clear h
    by_cases q0 : x1 = 0
    · have h := ht9 q0; clear ht9 hf9
      refine g_tabIn (tgt := 40) K dX12_count_1 (by rw [q0]; decide) (by rw [q0]; decide) (by rw [q0]; rfl) (by decide) ?_
      refine g_aload_n K dX12_count_40 rfl 0 rfl ?_
      refine mg_1 K hin_X12 (u_980) dX12_count_41 ?_
      refine g_bipush (v := 51) K dX12_count_44 (by decide) ?_
      obtain ⟨b_1, h⟩ := gi_none h
      refine g_iald (f := (A 1)) K 1 rfl (ginb_in b_1) dX12_count_46 ?_
      obtain rfl := Option.some.inj h
      exact hret _ _ _ _ dX12_count_47 rfl ⟨rfl, rfl⟩
    have h := hf9 q0; clear ht9 hf9
    obtain ⟨ht9, hf9⟩ := gi_br h; clear h
    by_cases q1 : x1 = 1
    · have h := ht9 q1; clear ht9 hf9
      refine g_tabIn (tgt := 48) K dX12_count_1 (by rw [q1]; decide) (by rw [q1]; decide) (by rw [q1]; rfl) (by decide) ?_
      refine g_aload_n K dX12_count_48 rfl 0 rfl ?_
      refine mg_1 K hin_X12 (u_980) dX12_count_49 ?_
      refine g_bipush (v := 52) K dX12_count_52 (by decide) ?_
      obtain ⟨b_2, h⟩ := gi_none h
      refine g_iald (f := (A 1)) K 1 rfl (ginb_in b_2) dX12_count_54 ?_
      obtain rfl := Option.some.inj h
      exact hret _ _ _ _ dX12_count_55 rfl ⟨rfl, rfl⟩
    have h := hf9 q1; clear ht9 hf9
    obtain ⟨ht9, hf9⟩ := gi_br h; clear h
    by_cases q2 : x1 = 2
    · have h := ht9 q2; clear ht9 hf9
      refine g_tabIn (tgt := 56) K dX12_count_1 (by rw [q2]; decide) (by rw [q2]; decide) (by rw [q2]; rfl) (by decide) ?_
      refine g_aload_n K dX12_count_56 rfl 0 rfl ?_
      refine mg_1 K hin_X12 (u_980) dX12_count_57 ?_
      refine g_bipush (v := 53) K dX12_count_60 (by decide) ?_
      obtain ⟨b_3, h⟩ := gi_none h
      refine g_iald (f := (A 1)) K 1 rfl (ginb_in b_3) dX12_count_62 ?_
      obtain rfl := Option.some.inj h
      exact hret _ _ _ _ dX12_count_63 rfl ⟨rfl, rfl⟩
    have h := hf9 q2; clear ht9 hf9
    obtain ⟨ht9, hf9⟩ := gi_br h; clear h
    by_cases q3 : x1 = 3
    · have h := ht9 q3; clear ht9 hf9
      refine g_tabIn (tgt := 64) K dX12_count_1 (by rw [q3]; decide) (by rw [q3]; decide) (by rw [q3]; rfl) (by decide) ?_
      refine g_aload_n K dX12_count_64 rfl 0 rfl ?_
      refine mg_1 K hin_X12 (u_980) dX12_count_65 ?_
      refine g_bipush (v := 54) K dX12_count_68 (by decide) ?_
      obtain ⟨b_4, h⟩ := gi_none h
      refine g_iald (f := (A 1)) K 1 rfl (ginb_in b_4) dX12_count_70 ?_
      obtain rfl := Option.some.inj h
      exact hret _ _ _ _ dX12_count_71 rfl ⟨rfl, rfl⟩
    have h := hf9 q3; clear ht9 hf9
    obtain ⟨ht9, hf9⟩ := gi_br h; clear h
    by_cases q4 : x1 = 4
    · have h := ht9 q4; clear ht9 hf9
      refine g_tabIn (tgt := 72) K dX12_count_1 (by rw [q4]; decide) (by rw [q4]; decide) (by rw [q4]; rfl) (by decide) ?_
      refine g_aload_n K dX12_count_72 rfl 0 rfl ?_
      refine mg_1 K hin_X12 (u_980) dX12_count_73 ?_
      refine g_bipush (v := 55) K dX12_count_76 (by decide) ?_
      obtain ⟨b_5, h⟩ := gi_none h
      refine g_iald (f := (A 1)) K 1 rfl (ginb_in b_5) dX12_count_78 ?_
      obtain rfl := Option.some.inj h
      exact hret _ _ _ _ dX12_count_79 rfl ⟨rfl, rfl⟩
    have h := hf9 q4; clear ht9 hf9
    obtain ⟨ht9, hf9⟩ := gi_br h; clear h
    by_cases q5 : x1 = 5
    · have h := ht9 q5; clear ht9 hf9
      refine g_tabIn (tgt := 80) K dX12_count_1 (by rw [q5]; decide) (by rw [q5]; decide) (by rw [q5]; rfl) (by decide) ?_
      refine g_aload_n K dX12_count_80 rfl 0 rfl ?_
      refine mg_18 (v := (o 18)) K hin_X12 (u_997) rfl dX12_count_81 ?_
      obtain rfl := Option.some.inj h
      exact hret _ _ _ _ dX12_count_84 rfl ⟨rfl, rfl⟩
    have h := hf9 q5; clear ht9 hf9
    refine g_tabOut (tgt := 85) K dX12_count_1 (by have t0 := gi_ne (z := 0) q0 (by decide); have t1 := gi_ne (z := 1) q1 (by decide); have t2 := gi_ne (z := 2) q2 (by decide); have t3 := gi_ne (z := 3) q3 (by decide); have t4 := gi_ne (z := 4) q4 (by decide); have t5 := gi_ne (z := 5) q5 (by decide); omega) (by decide) ?_
    refine g_iconst (v := (-1)) K dX12_count_85 (by decide) ?_
    obtain rfl := Option.some.inj h
    exact hret _ _ _ _ dX12_count_86 rfl ⟨rfl, rfl⟩

set_option maxRecDepth 100000 in
theorem ctX12_count {E : gE} {m : Nat} {r : Nat → Nat} (o : Nat → Int32) (A : Nat → Nat → Int32) (x1 : Int32) {res : Int32} (h : pX12_count (A 1) (o 18) x1 = some res) : gMi yX12_count (.code yX12_count cX12_count 2 (some .int) :: gU) ({ frames := 4, cells := 0, slots := 0, locals := 150 } : Room) 0 0 E [.ref m, .int x1] (mw E m r o A) (fun v w => v = res ∧ w = mw E m r o A) := by
  refine g_met_i (by decide +kernel) (Nat.le_of_ble_eq_true rfl) (fun Γ K hn hE hRm _ hret => ?_)
  subst hE
  have hlt : ∀ i, i < 2 → i < g_n Γ := fun i q => by rw [hn]; exact q
  refine g_sub (L' := [(0, .ref m), (1, .int x1)]) [0, 1] rfl ?_
  exact wX12_count K hlt hRm hret x1 h

