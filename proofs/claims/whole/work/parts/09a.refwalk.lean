set_option maxHeartbeats 4000000 in
set_option maxRecDepth 100000 in
theorem wX12_in {Γ : gT} {ws : va_W} (K : gOK Γ cX12_in gU RX12) (hlt : ∀ i, i < 3 → i < g_n Γ) (hRm : g_R Γ = ({ frames := 4, cells := 0, slots := 0, locals := 150 } : Room)) {res : Int32} (hret : ∀ (pc : Nat) (L : List (Nat × Value)) (v : Int32) (w : va_W), decode cX12_in pc = .ok (.ireturn, 1) → narrow .boolean (.int v) = .int v → (v = res ∧ w = ws) → gGO Γ 0 0 pc L [.int v] w) (x0 : Int32) (x1 : Int32) (x2 : Int32) (h : pX12_in x0 x1 x2 = some res) : gGO Γ 0 0 0 [(0, .int x0), (1, .int x1), (2, .int x2)] [] (ws) := by
    unfold pX12_in at h
    refine g_iload_n K dX12_in_0 rfl 0 rfl ?_
    refine g_iload_n K dX12_in_1 rfl 1 rfl ?_
    obtain ⟨ht9, hf9⟩ := gi_br h; clear h
    refine g_icmp_lt (tgt := 14) K dX12_in_2 (by decide) (fun qh => ?_) (fun qh => ?_)
    · have h := ht9 qh; clear ht9 hf9
      refine g_iconst (v := 0) K dX12_in_14 (by decide) ?_
      obtain rfl := Option.some.inj h
      exact hret _ _ _ _ dX12_in_15 (by decide) ⟨rfl, rfl⟩
    · have h := hf9 qh; clear ht9 hf9
      refine g_iload_n K dX12_in_5 rfl 0 rfl ?_
      refine g_iload_n K dX12_in_6 rfl 2 rfl ?_
      obtain ⟨ht9, hf9⟩ := gi_br h; clear h
      refine g_icmp_gt (tgt := 14) K dX12_in_7 (by decide) (fun qh => ?_) (fun qh => ?_)
      · have h := ht9 qh; clear ht9 hf9
        refine g_iconst (v := 0) K dX12_in_14 (by decide) ?_
        obtain rfl := Option.some.inj h
        exact hret _ _ _ _ dX12_in_15 (by decide) ⟨rfl, rfl⟩
      · have h := hf9 qh; clear ht9 hf9
        refine g_iconst (v := 1) K dX12_in_10 (by decide) ?_
        refine g_goto (tgt := 15) K dX12_in_11 (by decide) ?_
        obtain rfl := Option.some.inj h
        exact hret _ _ _ _ dX12_in_15 (by decide) ⟨rfl, rfl⟩

set_option maxRecDepth 100000 in
theorem ctX12_in {E : gE} {ws : va_W} (x0 : Int32) (x1 : Int32) (x2 : Int32) {res : Int32} (h : pX12_in x0 x1 x2 = some res) : gMi yX12_in (.code yX12_in cX12_in 3 (some .boolean) :: gU) ({ frames := 4, cells := 0, slots := 0, locals := 150 } : Room) 0 0 E [.int x0, .int x1, .int x2] ws (fun v w => v = res ∧ w = ws) := by
  refine g_met_i (by decide +kernel) (Nat.le_of_ble_eq_true rfl) (fun Γ K hn hE hRm _ hret => ?_)
  subst hE
  have hlt : ∀ i, i < 3 → i < g_n Γ := fun i q => by rw [hn]; exact q
  refine g_sub (L' := [(0, .int x0), (1, .int x1), (2, .int x2)]) [0, 1, 2] rfl ?_
  exact wX12_in K hlt hRm hret x0 x1 x2 h

set_option maxHeartbeats 4000000 in
set_option maxRecDepth 100000 in
theorem wX12_feed {Γ : gT} {m : Nat} {r : Nat → Nat} {o : Nat → Int32} {A : Nat → Nat → Int32} (K : gOK Γ cX12_feed gU RX12) (hlt : ∀ i, i < 2 → i < g_n Γ) (hRm : g_R Γ = ({ frames := 5, cells := 0, slots := 0, locals := 172 } : Room)) {res : Int32 × ((Nat → Int32))} (hret : ∀ (pc : Nat) (L : List (Nat × Value)) (v : Int32) (w : va_W), decode cX12_feed pc = .ok (.ireturn, 1) → narrow .int (.int v) = .int v → (v = res.1 ∧ w = mw (g_E Γ) m r o (gu A 1 res.2)) → gGO Γ 0 0 pc L [.int v] w) (a1 : (Nat → Int32)) (x1 : Int32) (h : pX12_feed a1 x1 = some res) : gGO Γ 0 0 0 [(0, .ref m), (1, .int x1)] [] (mw (g_E Γ) m r o (gu A 1 a1)) := by
    unfold pX12_feed at h
    refine g_iload_n K dX12_feed_0 rfl 1 rfl ?_
    refine g_iconst (v := 0) K dX12_feed_1 (by decide) ?_
    refine g_bipush (v := 127) K dX12_feed_2 (by decide) ?_
    obtain ⟨z_1, hz_1, h⟩ := gi_bd h
    refine g_callSi (As := [.int x1, .int 0, .int 127]) (bytes := cX12_in) (maxL := 3) (ret := (some .boolean)) K (ctX12_in (ws := mw (g_E Γ) m r o (gu A 1 a1)) x1 0 127 (res := z_1) hz_1) gc_S_RX12_50_X12_in rfl qs_X12_in hRm rfl rfl rfl (by decide) (Nat.le_of_ble_eq_true rfl) (by decide) dX12_feed_4 (fun v w hw => ?_)
    obtain ⟨hv9, rfl⟩ := hw; have hv9 := hv9.symm; subst hv9
    obtain ⟨ht9, hf9⟩ := gi_br h; clear h
    refine g_if_ne (tgt := 13) K dX12_feed_7 (by decide) (fun qh => ?_) (fun qh => ?_)
    · have h := hf9 qh; clear ht9 hf9
      refine g_aload_n K dX12_feed_13 rfl 0 rfl ?_
      refine mg_1 K hin_X12 (u_980) dX12_feed_14 ?_
      refine g_bipush (v := 55) K dX12_feed_17 (by decide) ?_
      obtain ⟨b_2, h⟩ := gi_none h
      refine g_iald (f := a1) K 1 rfl (ginb_in b_2) dX12_feed_19 ?_
      refine g_bipush (v := 100) K dX12_feed_20 (by decide) ?_
      obtain ⟨ht9, hf9⟩ := gi_br h; clear h
      refine g_icmp_ne (tgt := 28) K dX12_feed_22 (by decide) (fun qh => ?_) (fun qh => ?_)
      · have h := hf9 qh; clear ht9 hf9
        refine g_aload_n K dX12_feed_28 rfl 0 rfl ?_
        refine mg_1 K hin_X12 (u_980) dX12_feed_29 ?_
        refine g_sipush (v := 132) K dX12_feed_32 (by decide) ?_
        refine g_aload_n K dX12_feed_35 rfl 0 rfl ?_
        refine mg_1 K hin_X12 (u_980) dX12_feed_36 ?_
        refine g_bipush (v := 55) K dX12_feed_39 (by decide) ?_
        obtain ⟨b_3, h⟩ := gi_none h
        refine g_iald (f := a1) K 1 rfl (ginb_in b_3) dX12_feed_41 ?_
        refine g_iadd K dX12_feed_42 ?_
        refine g_iload_n K dX12_feed_43 rfl 1 rfl ?_
        obtain ⟨b_4, h⟩ := gi_none h
        obtain ⟨f_5, ef_5, h⟩ := gi_nm h
        refine g_iast (f := a1) (ws' := mw (g_E Γ) m r o (gu A 1 f_5)) K 1 rfl (ginb_in b_4) dX12_feed_44 (by rw [ef_5]; rfl) ?_
        refine g_aload_n K dX12_feed_45 rfl 0 rfl ?_
        refine mg_1 K hin_X12 (u_980) dX12_feed_46 ?_
        refine g_bipush (v := 55) K dX12_feed_49 (by decide) ?_
        refine g_dup2 K dX12_feed_51 rfl rfl ?_
        obtain ⟨b_6, h⟩ := gi_none h
        refine g_iald (f := f_5) K 1 rfl (ginb_in b_6) dX12_feed_52 ?_
        refine g_iconst (v := 1) K dX12_feed_53 (by decide) ?_
        refine g_iadd K dX12_feed_54 ?_
        obtain ⟨b_7, h⟩ := gi_none h
        obtain ⟨f_8, ef_8, h⟩ := gi_nm h
        refine g_iast (f := f_5) (ws' := mw (g_E Γ) m r o (gu A 1 f_8)) K 1 rfl (ginb_in b_7) dX12_feed_55 (by rw [ef_8]; rfl) ?_
        refine g_aload_n K dX12_feed_56 rfl 0 rfl ?_
        refine mg_1 K hin_X12 (u_980) dX12_feed_57 ?_
        refine g_bipush (v := 55) K dX12_feed_60 (by decide) ?_
        obtain ⟨b_9, h⟩ := gi_none h
        refine g_iald (f := f_8) K 1 rfl (ginb_in b_9) dX12_feed_62 ?_
        obtain rfl := Option.some.inj h
        exact hret _ _ _ _ dX12_feed_63 rfl ⟨rfl, rfl⟩
      · have h := ht9 qh; clear ht9 hf9
        refine g_bipush (v := (-4)) K dX12_feed_25 (by decide) ?_
        obtain rfl := Option.some.inj h
        exact hret _ _ _ _ dX12_feed_27 rfl ⟨rfl, rfl⟩
    · have h := ht9 qh; clear ht9 hf9
      refine g_bipush (v := (-2)) K dX12_feed_10 (by decide) ?_
      obtain rfl := Option.some.inj h
      exact hret _ _ _ _ dX12_feed_12 rfl ⟨rfl, rfl⟩

set_option maxRecDepth 100000 in
theorem ctX12_feed {E : gE} {m : Nat} {r : Nat → Nat} (o : Nat → Int32) (A : Nat → Nat → Int32) (x1 : Int32) {res : Int32 × ((Nat → Int32))} (h : pX12_feed (A 1) x1 = some res) : gMi yX12_feed (.code yX12_feed cX12_feed 2 (some .int) :: gU) ({ frames := 5, cells := 0, slots := 0, locals := 172 } : Room) 0 0 E [.ref m, .int x1] (mw E m r o A) (fun v w => v = res.1 ∧ w = mw E m r o (gu A 1 res.2)) := by
  refine g_met_i (by decide +kernel) (Nat.le_of_ble_eq_true rfl) (fun Γ K hn hE hRm _ hret => ?_)
  subst hE
  have hlt : ∀ i, i < 2 → i < g_n Γ := fun i q => by rw [hn]; exact q
  refine g_ws (ws' := mw (g_E Γ) m r o (gu A 1 (A 1))) rfl ?_
  refine g_sub (L' := [(0, .ref m), (1, .int x1)]) [0, 1] rfl ?_
  exact wX12_feed K hlt hRm hret (A 1) x1 h

set_option maxHeartbeats 4000000 in
set_option maxRecDepth 100000 in
theorem wX12_tellsOf {Γ : gT} {m : Nat} {r : Nat → Nat} {o : Nat → Int32} {A : Nat → Nat → Int32} (K : gOK Γ cX12_tellsOf gU RX12) (hlt : ∀ i, i < 3 → i < g_n Γ) (hRm : g_R Γ = ({ frames := 4, cells := 0, slots := 0, locals := 150 } : Room)) {res : Int32} (hret : ∀ (pc : Nat) (L : List (Nat × Value)) (v : Int32) (w : va_W), decode cX12_tellsOf pc = .ok (.ireturn, 1) → narrow .int (.int v) = .int v → (v = res ∧ w = mw (g_E Γ) m r o A) → gGO Γ 0 0 pc L [.int v] w) (x1 : Int32) (x2 : Int32) (h : pX12_tellsOf (A 1) x1 x2 = some res) : gGO Γ 0 0 0 [(0, .ref m), (1, .int x1), (2, .int x2)] [] (mw (g_E Γ) m r o A) := by
    unfold pX12_tellsOf at h
    refine g_aload_n K dX12_tellsOf_0 rfl 0 rfl ?_
    refine mg_1 K hin_X12 (u_980) dX12_tellsOf_1 ?_
    refine g_bipush (v := 56) K dX12_tellsOf_4 (by decide) ?_
    obtain ⟨b_1, h⟩ := gi_none h
    refine g_iald (f := (A 1)) K 1 rfl (ginb_in b_1) dX12_tellsOf_6 ?_
    refine g_iconst (v := (-1)) K dX12_tellsOf_7 (by decide) ?_
    obtain ⟨ht9, hf9⟩ := gi_br h; clear h
    refine g_icmp_ne (tgt := 15) K dX12_tellsOf_8 (by decide) (fun qh => ?_) (fun qh => ?_)
    · have h := hf9 qh; clear ht9 hf9
      refine g_aload_n K dX12_tellsOf_15 rfl 0 rfl ?_
      refine mg_1 K hin_X12 (u_980) dX12_tellsOf_16 ?_
      refine g_iload_n K dX12_tellsOf_19 rfl 1 rfl ?_
      refine g_aload_n K dX12_tellsOf_20 rfl 0 rfl ?_
      refine mg_1 K hin_X12 (u_980) dX12_tellsOf_21 ?_
      refine g_bipush (v := 56) K dX12_tellsOf_24 (by decide) ?_
      obtain ⟨b_2, h⟩ := gi_none h
      refine g_iald (f := (A 1)) K 1 rfl (ginb_in b_2) dX12_tellsOf_26 ?_
      refine g_iadd K dX12_tellsOf_27 ?_
      obtain ⟨b_3, h⟩ := gi_none h
      refine g_iald (f := (A 1)) K 1 rfl (ginb_in b_3) dX12_tellsOf_28 ?_
      obtain rfl := Option.some.inj h
      exact hret _ _ _ _ dX12_tellsOf_29 rfl ⟨rfl, rfl⟩
    · have h := ht9 qh; clear ht9 hf9
      refine g_iload_n K dX12_tellsOf_11 rfl 2 rfl ?_
      refine g_goto (tgt := 29) K dX12_tellsOf_12 (by decide) ?_
      obtain rfl := Option.some.inj h
      exact hret _ _ _ _ dX12_tellsOf_29 rfl ⟨rfl, rfl⟩

set_option maxRecDepth 100000 in
theorem ctX12_tellsOf {E : gE} {m : Nat} {r : Nat → Nat} (o : Nat → Int32) (A : Nat → Nat → Int32) (x1 : Int32) (x2 : Int32) {res : Int32} (h : pX12_tellsOf (A 1) x1 x2 = some res) : gMi yX12_tellsOf (.code yX12_tellsOf cX12_tellsOf 3 (some .int) :: gU) ({ frames := 4, cells := 0, slots := 0, locals := 150 } : Room) 0 0 E [.ref m, .int x1, .int x2] (mw E m r o A) (fun v w => v = res ∧ w = mw E m r o A) := by
  refine g_met_i (by decide +kernel) (Nat.le_of_ble_eq_true rfl) (fun Γ K hn hE hRm _ hret => ?_)
  subst hE
  have hlt : ∀ i, i < 3 → i < g_n Γ := fun i q => by rw [hn]; exact q
  refine g_sub (L' := [(0, .ref m), (1, .int x1), (2, .int x2)]) [0, 1, 2] rfl ?_
  exact wX12_tellsOf K hlt hRm hret x1 x2 h

set_option maxHeartbeats 4000000 in
set_option maxRecDepth 100000 in
theorem wX12_told {Γ : gT} {m : Nat} {r : Nat → Nat} {o : Nat → Int32} {A : Nat → Nat → Int32} (K : gOK Γ cX12_told gU RX12) (hlt : ∀ i, i < 2 → i < g_n Γ) (hRm : g_R Γ = ({ frames := 5, cells := 0, slots := 0, locals := 172 } : Room)) {res : Int32} (hret : ∀ (pc : Nat) (L : List (Nat × Value)) (v : Int32) (w : va_W), decode cX12_told pc = .ok (.ireturn, 1) → narrow .int (.int v) = .int v → (v = res ∧ w = mw (g_E Γ) m r o A) → gGO Γ 0 0 pc L [.int v] w) (x1 : Int32) (h : pX12_told (A 1) x1 = some res) : gGO Γ 0 0 0 [(0, .ref m), (1, .int x1)] [] (mw (g_E Γ) m r o A) := by
    unfold pX12_told at h
    refine g_iload_n K dX12_told_0 rfl 1 rfl ?_
    obtain ⟨ht9, hf9⟩ := gi_br h; clear h
    by_cases q0 : x1 = 0
    · have h := ht9 q0; clear ht9 hf9
      refine g_tabIn (tgt := 40) K dX12_told_1 (by rw [q0]; decide) (by rw [q0]; decide) (by rw [q0]; rfl) (by decide) ?_
      refine g_aload_n K dX12_told_40 rfl 0 rfl ?_
      refine g_sipush (v := 232) K dX12_told_41 (by decide) ?_
      refine g_bipush (v := 10) K dX12_told_44 (by decide) ?_
      obtain ⟨z_1, hz_1, h⟩ := gi_bd h
      refine g_callVi (As := [.int 232, .int 10]) (bytes := cX12_tellsOf) (maxL := 3) (ret := (some .int)) K (ctX12_tellsOf o A 232 10 (res := z_1) hz_1) gc_V_RX12_134_X12_tellsOf rfl qv_X12_tellsOf 0 rfl rfl rfl hRm rfl rfl rfl (by decide) (Nat.le_of_ble_eq_true rfl) (by decide) dX12_told_46 (fun v w hw => ?_)
      obtain ⟨hv9, rfl⟩ := hw; have hv9 := hv9.symm; subst hv9
      obtain rfl := Option.some.inj h
      exact hret _ _ _ _ dX12_told_49 rfl ⟨rfl, rfl⟩
    have h := hf9 q0; clear ht9 hf9
    obtain ⟨ht9, hf9⟩ := gi_br h; clear h
    by_cases q1 : x1 = 1
    · have h := ht9 q1; clear ht9 hf9
      refine g_tabIn (tgt := 50) K dX12_told_1 (by rw [q1]; decide) (by rw [q1]; decide) (by rw [q1]; rfl) (by decide) ?_
      refine g_aload_n K dX12_told_50 rfl 0 rfl ?_
      refine g_sipush (v := 237) K dX12_told_51 (by decide) ?_
      refine g_iconst (v := 0) K dX12_told_54 (by decide) ?_
      obtain ⟨z_2, hz_2, h⟩ := gi_bd h
      refine g_callVi (As := [.int 237, .int 0]) (bytes := cX12_tellsOf) (maxL := 3) (ret := (some .int)) K (ctX12_tellsOf o A 237 0 (res := z_2) hz_2) gc_V_RX12_134_X12_tellsOf rfl qv_X12_tellsOf 0 rfl rfl rfl hRm rfl rfl rfl (by decide) (Nat.le_of_ble_eq_true rfl) (by decide) dX12_told_55 (fun v w hw => ?_)
      obtain ⟨hv9, rfl⟩ := hw; have hv9 := hv9.symm; subst hv9
      obtain rfl := Option.some.inj h
      exact hret _ _ _ _ dX12_told_58 rfl ⟨rfl, rfl⟩
    have h := hf9 q1; clear ht9 hf9
    obtain ⟨ht9, hf9⟩ := gi_br h; clear h
    by_cases q2 : x1 = 2
    · have h := ht9 q2; clear ht9 hf9
      refine g_tabIn (tgt := 59) K dX12_told_1 (by rw [q2]; decide) (by rw [q2]; decide) (by rw [q2]; rfl) (by decide) ?_
      refine g_aload_n K dX12_told_59 rfl 0 rfl ?_
      refine g_sipush (v := 242) K dX12_told_60 (by decide) ?_
      refine g_bipush (v := 10) K dX12_told_63 (by decide) ?_
      obtain ⟨z_3, hz_3, h⟩ := gi_bd h
      refine g_callVi (As := [.int 242, .int 10]) (bytes := cX12_tellsOf) (maxL := 3) (ret := (some .int)) K (ctX12_tellsOf o A 242 10 (res := z_3) hz_3) gc_V_RX12_134_X12_tellsOf rfl qv_X12_tellsOf 0 rfl rfl rfl hRm rfl rfl rfl (by decide) (Nat.le_of_ble_eq_true rfl) (by decide) dX12_told_65 (fun v w hw => ?_)
      obtain ⟨hv9, rfl⟩ := hw; have hv9 := hv9.symm; subst hv9
      obtain rfl := Option.some.inj h
      exact hret _ _ _ _ dX12_told_68 rfl ⟨rfl, rfl⟩
    have h := hf9 q2; clear ht9 hf9
    obtain ⟨ht9, hf9⟩ := gi_br h; clear h
    by_cases q3 : x1 = 3
    · have h := ht9 q3; clear ht9 hf9
      refine g_tabIn (tgt := 69) K dX12_told_1 (by rw [q3]; decide) (by rw [q3]; decide) (by rw [q3]; rfl) (by decide) ?_
      refine g_aload_n K dX12_told_69 rfl 0 rfl ?_
      refine mg_1 K hin_X12 (u_980) dX12_told_70 ?_
      refine g_iconst (v := 0) K dX12_told_73 (by decide) ?_
      obtain ⟨b_4, h⟩ := gi_none h
      refine g_iald (f := (A 1)) K 1 rfl (ginb_in b_4) dX12_told_74 ?_
      obtain rfl := Option.some.inj h
      exact hret _ _ _ _ dX12_told_75 rfl ⟨rfl, rfl⟩
    have h := hf9 q3; clear ht9 hf9
    obtain ⟨ht9, hf9⟩ := gi_br h; clear h
    by_cases q4 : x1 = 4
    · have h := ht9 q4; clear ht9 hf9
      refine g_tabIn (tgt := 76) K dX12_told_1 (by rw [q4]; decide) (by rw [q4]; decide) (by rw [q4]; rfl) (by decide) ?_
      refine g_aload_n K dX12_told_76 rfl 0 rfl ?_
      refine mg_1 K hin_X12 (u_980) dX12_told_77 ?_
      refine g_bipush (v := 57) K dX12_told_80 (by decide) ?_
      obtain ⟨b_5, h⟩ := gi_none h
      refine g_iald (f := (A 1)) K 1 rfl (ginb_in b_5) dX12_told_82 ?_
      obtain rfl := Option.some.inj h
      exact hret _ _ _ _ dX12_told_83 rfl ⟨rfl, rfl⟩
    have h := hf9 q4; clear ht9 hf9
    obtain ⟨ht9, hf9⟩ := gi_br h; clear h
    by_cases q5 : x1 = 5
    · have h := ht9 q5; clear ht9 hf9
      refine g_tabIn (tgt := 84) K dX12_told_1 (by rw [q5]; decide) (by rw [q5]; decide) (by rw [q5]; rfl) (by decide) ?_
      refine g_aload_n K dX12_told_84 rfl 0 rfl ?_
      refine mg_1 K hin_X12 (u_980) dX12_told_85 ?_
      refine g_bipush (v := 58) K dX12_told_88 (by decide) ?_
      obtain ⟨b_6, h⟩ := gi_none h
      refine g_iald (f := (A 1)) K 1 rfl (ginb_in b_6) dX12_told_90 ?_
      obtain rfl := Option.some.inj h
      exact hret _ _ _ _ dX12_told_91 rfl ⟨rfl, rfl⟩
    have h := hf9 q5; clear ht9 hf9
    refine g_tabOut (tgt := 92) K dX12_told_1 (by have t0 := gi_ne (z := 0) q0 (by decide); have t1 := gi_ne (z := 1) q1 (by decide); have t2 := gi_ne (z := 2) q2 (by decide); have t3 := gi_ne (z := 3) q3 (by decide); have t4 := gi_ne (z := 4) q4 (by decide); have t5 := gi_ne (z := 5) q5 (by decide); omega) (by decide) ?_
    refine g_iconst (v := (-1)) K dX12_told_92 (by decide) ?_
    obtain rfl := Option.some.inj h
    exact hret _ _ _ _ dX12_told_93 rfl ⟨rfl, rfl⟩

set_option maxRecDepth 100000 in
theorem ctX12_told {E : gE} {m : Nat} {r : Nat → Nat} (o : Nat → Int32) (A : Nat → Nat → Int32) (x1 : Int32) {res : Int32} (h : pX12_told (A 1) x1 = some res) : gMi yX12_told (.code yX12_told cX12_told 2 (some .int) :: gU) ({ frames := 5, cells := 0, slots := 0, locals := 172 } : Room) 0 0 E [.ref m, .int x1] (mw E m r o A) (fun v w => v = res ∧ w = mw E m r o A) := by
  refine g_met_i (by decide +kernel) (Nat.le_of_ble_eq_true rfl) (fun Γ K hn hE hRm _ hret => ?_)
  subst hE
  have hlt : ∀ i, i < 2 → i < g_n Γ := fun i q => by rw [hn]; exact q
  refine g_sub (L' := [(0, .ref m), (1, .int x1)]) [0, 1] rfl ?_
  exact wX12_told K hlt hRm hret x1 h

set_option maxHeartbeats 4000000 in
set_option maxRecDepth 100000 in
theorem wX12_chief {Γ : gT} {m : Nat} {r : Nat → Nat} {o : Nat → Int32} {A : Nat → Nat → Int32} (K : gOK Γ cX12_chief gU RX12) (hlt : ∀ i, i < 5 → i < g_n Γ) (hRm : g_R Γ = ({ frames := 5, cells := 0, slots := 0, locals := 172 } : Room)) {res : Int32 × ((Nat → Int32))} (hret : ∀ (pc : Nat) (L : List (Nat × Value)) (v : Int32) (w : va_W), decode cX12_chief pc = .ok (.ireturn, 1) → narrow .int (.int v) = .int v → (v = res.1 ∧ w = mw (g_E Γ) m r o (gu A 1 res.2)) → gGO Γ 0 0 pc L [.int v] w) (a1 : (Nat → Int32)) (x1 : Int32) (x2 : Int32) (x3 : Int32) (h : pX12_chief a1 x1 x2 x3 = some res) : gGO Γ 0 0 0 [(0, .ref m), (1, .int x1), (2, .int x2), (3, .int x3)] [] (mw (g_E Γ) m r o (gu A 1 a1)) := by
    unfold pX12_chief at h
    refine g_iload_n K dX12_chief_0 rfl 1 rfl ?_
    refine g_iconst (v := 0) K dX12_chief_1 (by decide) ?_
    refine g_bipush (v := 6) K dX12_chief_2 (by decide) ?_
    obtain ⟨z_1, hz_1, h⟩ := gi_bd h
    refine g_callSi (As := [.int x1, .int 0, .int 6]) (bytes := cX12_in) (maxL := 3) (ret := (some .boolean)) K (ctX12_in (ws := mw (g_E Γ) m r o (gu A 1 a1)) x1 0 6 (res := z_1) hz_1) gc_S_RX12_50_X12_in rfl qs_X12_in hRm rfl rfl rfl (by decide) (Nat.le_of_ble_eq_true rfl) (by decide) dX12_chief_4 (fun v w hw => ?_)
    obtain ⟨hv9, rfl⟩ := hw; have hv9 := hv9.symm; subst hv9
    obtain ⟨ht9, hf9⟩ := gi_br h; clear h
    refine g_if_ne (tgt := 12) K dX12_chief_7 (by decide) (fun qh => ?_) (fun qh => ?_)
    · have h := hf9 qh; clear ht9 hf9
      refine g_iload_n K dX12_chief_12 rfl 2 rfl ?_
      refine g_iconst (v := 0) K dX12_chief_13 (by decide) ?_
      refine g_bipush (v := 9) K dX12_chief_14 (by decide) ?_
      obtain ⟨z_2, hz_2, h⟩ := gi_bd h
      refine g_callSi (As := [.int x2, .int 0, .int 9]) (bytes := cX12_in) (maxL := 3) (ret := (some .boolean)) K (ctX12_in (ws := mw (g_E Γ) m r o (gu A 1 a1)) x2 0 9 (res := z_2) hz_2) gc_S_RX12_50_X12_in rfl qs_X12_in hRm rfl rfl rfl (by decide) (Nat.le_of_ble_eq_true rfl) (by decide) dX12_chief_16 (fun v w hw => ?_)
      obtain ⟨hv9, rfl⟩ := hw; have hv9 := hv9.symm; subst hv9
      obtain ⟨ht9, hf9⟩ := gi_br h; clear h
      refine g_if_eq (tgt := 32) K dX12_chief_19 (by decide) (fun qh => ?_) (fun qh => ?_)
      · have h := ht9 qh; clear ht9 hf9
        refine g_bipush (v := (-2)) K dX12_chief_32 (by decide) ?_
        obtain rfl := Option.some.inj h
        exact hret _ _ _ _ dX12_chief_34 rfl ⟨rfl, rfl⟩
      · have h := hf9 qh; clear ht9 hf9
        refine g_iload_n K dX12_chief_22 rfl 3 rfl ?_
        refine g_iconst (v := 0) K dX12_chief_23 (by decide) ?_
        refine g_bipush (v := 9) K dX12_chief_24 (by decide) ?_
        obtain ⟨z_3, hz_3, h⟩ := gi_bd h
        refine g_callSi (As := [.int x3, .int 0, .int 9]) (bytes := cX12_in) (maxL := 3) (ret := (some .boolean)) K (ctX12_in (ws := mw (g_E Γ) m r o (gu A 1 a1)) x3 0 9 (res := z_3) hz_3) gc_S_RX12_50_X12_in rfl qs_X12_in hRm rfl rfl rfl (by decide) (Nat.le_of_ble_eq_true rfl) (by decide) dX12_chief_26 (fun v w hw => ?_)
        obtain ⟨hv9, rfl⟩ := hw; have hv9 := hv9.symm; subst hv9
        obtain ⟨ht9, hf9⟩ := gi_br h; clear h
        refine g_if_ne (tgt := 35) K dX12_chief_29 (by decide) (fun qh => ?_) (fun qh => ?_)
        · have h := hf9 qh; clear ht9 hf9
          refine g_aload_n K dX12_chief_35 rfl 0 rfl ?_
          refine mg_1 K hin_X12 (u_980) dX12_chief_36 ?_
          refine g_bipush (v := 52) K dX12_chief_39 (by decide) ?_
          obtain ⟨b_4, h⟩ := gi_none h
          refine g_iald (f := a1) K 1 rfl (ginb_in b_4) dX12_chief_41 ?_
          refine g_iconst (v := 4) K dX12_chief_42 (by decide) ?_
          obtain ⟨ht9, hf9⟩ := gi_br h; clear h
          refine g_icmp_ne (tgt := 49) K dX12_chief_43 (by decide) (fun qh => ?_) (fun qh => ?_)
          · have h := hf9 qh; clear ht9 hf9
            refine g_aload_n K dX12_chief_49 rfl 0 rfl ?_
            refine mg_1 K hin_X12 (u_980) dX12_chief_50 ?_
            refine g_bipush (v := 52) K dX12_chief_53 (by decide) ?_
            obtain ⟨b_5, h⟩ := gi_none h
            refine g_iald (f := a1) K 1 rfl (ginb_in b_5) dX12_chief_55 ?_
            obtain ⟨v_6, ev_6, h⟩ := gi_nm h
            refine g_topi ev_6 ?_
            refine g_istore (L' := [(4, .int v_6), (0, .ref m), (1, .int x1), (2, .int x2), (3, .int x3)]) K dX12_chief_56 (hlt _ (by decide)) rfl ?_
            refine g_aload_n K dX12_chief_58 rfl 1 rfl ?_
            refine mg_1 K hin_X12 (u_980) dX12_chief_59 ?_
            refine g_bipush (v := 60) K dX12_chief_62 (by decide) ?_
            refine g_iload K dX12_chief_64 0 rfl ?_
            refine g_iadd K dX12_chief_66 ?_
            refine g_iload_n K dX12_chief_67 rfl 2 rfl ?_
            obtain ⟨b_7, h⟩ := gi_none h
            obtain ⟨f_8, ef_8, h⟩ := gi_nm h
            refine g_iast (f := a1) (ws' := mw (g_E Γ) m r o (gu A 1 f_8)) K 1 rfl (ginb_in b_7) dX12_chief_68 (by rw [ef_8]; rfl) ?_
            refine g_aload_n K dX12_chief_69 rfl 1 rfl ?_
            refine mg_1 K hin_X12 (u_980) dX12_chief_70 ?_
            refine g_bipush (v := 64) K dX12_chief_73 (by decide) ?_
            refine g_iload K dX12_chief_75 0 rfl ?_
            refine g_iadd K dX12_chief_77 ?_
            refine g_iload_n K dX12_chief_78 rfl 3 rfl ?_
            obtain ⟨b_9, h⟩ := gi_none h
            obtain ⟨f_10, ef_10, h⟩ := gi_nm h
            refine g_iast (f := f_8) (ws' := mw (g_E Γ) m r o (gu A 1 f_10)) K 1 rfl (ginb_in b_9) dX12_chief_79 (by rw [ef_10]; rfl) ?_
            refine g_aload_n K dX12_chief_80 rfl 1 rfl ?_
            refine mg_1 K hin_X12 (u_980) dX12_chief_81 ?_
            refine g_bipush (v := 68) K dX12_chief_84 (by decide) ?_
            refine g_iload K dX12_chief_86 0 rfl ?_
            refine g_iadd K dX12_chief_88 ?_
            refine g_iload_n K dX12_chief_89 rfl 4 rfl ?_
            obtain ⟨b_11, h⟩ := gi_none h
            obtain ⟨f_12, ef_12, h⟩ := gi_nm h
            refine g_iast (f := f_10) (ws' := mw (g_E Γ) m r o (gu A 1 f_12)) K 1 rfl (ginb_in b_11) dX12_chief_90 (by rw [ef_12]; rfl) ?_
            refine g_aload_n K dX12_chief_91 rfl 1 rfl ?_
            refine mg_1 K hin_X12 (u_980) dX12_chief_92 ?_
            refine g_bipush (v := 52) K dX12_chief_95 (by decide) ?_
            refine g_dup2 K dX12_chief_97 rfl rfl ?_
            obtain ⟨b_13, h⟩ := gi_none h
            refine g_iald (f := f_12) K 1 rfl (ginb_in b_13) dX12_chief_98 ?_
            refine g_iconst (v := 1) K dX12_chief_99 (by decide) ?_
            refine g_iadd K dX12_chief_100 ?_
            obtain ⟨b_14, h⟩ := gi_none h
            obtain ⟨f_15, ef_15, h⟩ := gi_nm h
            refine g_iast (f := f_12) (ws' := mw (g_E Γ) m r o (gu A 1 f_15)) K 1 rfl (ginb_in b_14) dX12_chief_101 (by rw [ef_15]; rfl) ?_
            refine g_iload K dX12_chief_102 0 rfl ?_
            obtain rfl := Option.some.inj h
            exact hret _ _ _ _ dX12_chief_104 rfl ⟨rfl, rfl⟩
          · have h := ht9 qh; clear ht9 hf9
            refine g_bipush (v := (-4)) K dX12_chief_46 (by decide) ?_
            obtain rfl := Option.some.inj h
            exact hret _ _ _ _ dX12_chief_48 rfl ⟨rfl, rfl⟩
        · have h := ht9 qh; clear ht9 hf9
          refine g_bipush (v := (-2)) K dX12_chief_32 (by decide) ?_
          obtain rfl := Option.some.inj h
          exact hret _ _ _ _ dX12_chief_34 rfl ⟨rfl, rfl⟩
    · have h := ht9 qh; clear ht9 hf9
      refine g_iconst (v := (-1)) K dX12_chief_10 (by decide) ?_
      obtain rfl := Option.some.inj h
      exact hret _ _ _ _ dX12_chief_11 rfl ⟨rfl, rfl⟩

set_option maxRecDepth 100000 in
theorem ctX12_chief {E : gE} {m : Nat} {r : Nat → Nat} (o : Nat → Int32) (A : Nat → Nat → Int32) (x1 : Int32) (x2 : Int32) (x3 : Int32) {res : Int32 × ((Nat → Int32))} (h : pX12_chief (A 1) x1 x2 x3 = some res) : gMi yX12_chief (.code yX12_chief cX12_chief 5 (some .int) :: gU) ({ frames := 5, cells := 0, slots := 0, locals := 172 } : Room) 0 0 E [.ref m, .int x1, .int x2, .int x3] (mw E m r o A) (fun v w => v = res.1 ∧ w = mw E m r o (gu A 1 res.2)) := by
  refine g_met_i (by decide +kernel) (Nat.le_of_ble_eq_true rfl) (fun Γ K hn hE hRm _ hret => ?_)
  subst hE
  have hlt : ∀ i, i < 5 → i < g_n Γ := fun i q => by rw [hn]; exact q
  refine g_ws (ws' := mw (g_E Γ) m r o (gu A 1 (A 1))) rfl ?_
  refine g_sub (L' := [(0, .ref m), (1, .int x1), (2, .int x2), (3, .int x3)]) [0, 1, 2, 3] rfl ?_
  exact wX12_chief K hlt hRm hret (A 1) x1 x2 x3 h

set_option maxHeartbeats 4000000 in
set_option maxRecDepth 100000 in
theorem wX12_isChief {Γ : gT} {m : Nat} {r : Nat → Nat} {o : Nat → Int32} {A : Nat → Nat → Int32} (K : gOK Γ cX12_isChief gU RX12) (hlt : ∀ i, i < 2 → i < g_n Γ) (hRm : g_R Γ = ({ frames := 5, cells := 0, slots := 0, locals := 172 } : Room)) {res : Int32} (hret : ∀ (pc : Nat) (L : List (Nat × Value)) (v : Int32) (w : va_W), decode cX12_isChief pc = .ok (.ireturn, 1) → narrow .boolean (.int v) = .int v → (v = res ∧ w = mw (g_E Γ) m r o A) → gGO Γ 0 0 pc L [.int v] w) (x1 : Int32) (h : pX12_isChief (A 1) x1 = some res) : gGO Γ 0 0 0 [(0, .ref m), (1, .int x1)] [] (mw (g_E Γ) m r o A) := by
    unfold pX12_isChief at h
    refine g_iload_n K dX12_isChief_0 rfl 1 rfl ?_
    refine g_iconst (v := 0) K dX12_isChief_1 (by decide) ?_
    refine g_aload_n K dX12_isChief_2 rfl 0 rfl ?_
    refine mg_1 K hin_X12 (u_980) dX12_isChief_3 ?_
    refine g_bipush (v := 52) K dX12_isChief_6 (by decide) ?_
    obtain ⟨b_1, h⟩ := gi_none h
    refine g_iald (f := (A 1)) K 1 rfl (ginb_in b_1) dX12_isChief_8 ?_
    refine g_iconst (v := 1) K dX12_isChief_9 (by decide) ?_
    refine g_isub K dX12_isChief_10 ?_
    obtain ⟨z_2, hz_2, h⟩ := gi_bd h
    refine g_callSi (As := [.int x1, .int 0, .int (((A 1) (Int32.toNatClampNeg 52)) - 1)]) (bytes := cX12_in) (maxL := 3) (ret := (some .boolean)) K (ctX12_in (ws := mw (g_E Γ) m r o A) x1 0 (((A 1) (Int32.toNatClampNeg 52)) - 1) (res := z_2) hz_2) gc_S_RX12_50_X12_in rfl qs_X12_in hRm rfl rfl rfl (by decide) (Nat.le_of_ble_eq_true rfl) (by decide) dX12_isChief_11 (fun v w hw => ?_)
    obtain ⟨hv9, rfl⟩ := hw; have hv9 := hv9.symm; subst hv9
    obtain ⟨c_3, h⟩ := gi_none h
    obtain rfl := Option.some.inj h
    exact hret _ _ _ _ dX12_isChief_14 (gbool_nar c_3) ⟨rfl, rfl⟩

set_option maxRecDepth 100000 in
theorem ctX12_isChief {E : gE} {m : Nat} {r : Nat → Nat} (o : Nat → Int32) (A : Nat → Nat → Int32) (x1 : Int32) {res : Int32} (h : pX12_isChief (A 1) x1 = some res) : gMi yX12_isChief (.code yX12_isChief cX12_isChief 2 (some .boolean) :: gU) ({ frames := 5, cells := 0, slots := 0, locals := 172 } : Room) 0 0 E [.ref m, .int x1] (mw E m r o A) (fun v w => v = res ∧ w = mw E m r o A) := by
  refine g_met_i (by decide +kernel) (Nat.le_of_ble_eq_true rfl) (fun Γ K hn hE hRm _ hret => ?_)
  subst hE
  have hlt : ∀ i, i < 2 → i < g_n Γ := fun i q => by rw [hn]; exact q
  refine g_sub (L' := [(0, .ref m), (1, .int x1)]) [0, 1] rfl ?_
  exact wX12_isChief K hlt hRm hret x1 h

set_option maxHeartbeats 4000000 in
set_option maxRecDepth 100000 in
theorem wX12_worker {Γ : gT} {m : Nat} {r : Nat → Nat} {o : Nat → Int32} {A : Nat → Nat → Int32} (K : gOK Γ cX12_worker gU RX12) (hlt : ∀ i, i < 6 → i < g_n Γ) (hRm : g_R Γ = ({ frames := 6, cells := 0, slots := 0, locals := 193 } : Room)) {res : Int32 × ((Nat → Int32))} (hret : ∀ (pc : Nat) (L : List (Nat × Value)) (v : Int32) (w : va_W), decode cX12_worker pc = .ok (.ireturn, 1) → narrow .int (.int v) = .int v → (v = res.1 ∧ w = mw (g_E Γ) m r o (gu A 1 res.2)) → gGO Γ 0 0 pc L [.int v] w) (a1 : (Nat → Int32)) (x1 : Int32) (x2 : Int32) (x3 : Int32) (x4 : Int32) (h : pX12_worker a1 x1 x2 x3 x4 = some res) : gGO Γ 0 0 0 [(0, .ref m), (1, .int x1), (2, .int x2), (3, .int x3), (4, .int x4)] [] (mw (g_E Γ) m r o (gu A 1 a1)) := by
    unfold pX12_worker at h
    refine g_aload_n K dX12_worker_0 rfl 0 rfl ?_
    refine g_iload_n K dX12_worker_1 rfl 1 rfl ?_
    obtain ⟨z_1, hz_1, h⟩ := gi_bd h
    refine g_callVi (As := [.int x1]) (bytes := cX12_isChief) (maxL := 2) (ret := (some .boolean)) K (ctX12_isChief o (gu A 1 a1) x1 (res := z_1) hz_1) gc_V_RX12_138_X12_isChief rfl qv_X12_isChief 0 rfl rfl rfl hRm rfl rfl rfl (by decide) (Nat.le_of_ble_eq_true rfl) (by decide) dX12_worker_2 (fun v w hw => ?_)
    obtain ⟨hv9, rfl⟩ := hw; have hv9 := hv9.symm; subst hv9
    obtain ⟨ht9, hf9⟩ := gi_br h; clear h
    refine g_if_ne (tgt := 10) K dX12_worker_5 (by decide) (fun qh => ?_) (fun qh => ?_)
    · have h := hf9 qh; clear ht9 hf9
      refine g_iload_n K dX12_worker_10 rfl 2 rfl ?_
      refine g_iconst (v := 0) K dX12_worker_11 (by decide) ?_
      refine g_bipush (v := 99) K dX12_worker_12 (by decide) ?_
      obtain ⟨z_2, hz_2, h⟩ := gi_bd h
      refine g_callSi (As := [.int x2, .int 0, .int 99]) (bytes := cX12_in) (maxL := 3) (ret := (some .boolean)) K (ctX12_in (ws := mw (g_E Γ) m r o (gu A 1 a1)) x2 0 99 (res := z_2) hz_2) gc_S_RX12_50_X12_in rfl qs_X12_in hRm rfl rfl rfl (by decide) (Nat.le_of_ble_eq_true rfl) (by decide) dX12_worker_14 (fun v w hw => ?_)
      obtain ⟨hv9, rfl⟩ := hw; have hv9 := hv9.symm; subst hv9
      obtain ⟨ht9, hf9⟩ := gi_br h; clear h
      refine g_if_eq (tgt := 41) K dX12_worker_17 (by decide) (fun qh => ?_) (fun qh => ?_)
      · have h := ht9 qh; clear ht9 hf9
        refine g_bipush (v := (-2)) K dX12_worker_41 (by decide) ?_
        obtain rfl := Option.some.inj h
        exact hret _ _ _ _ dX12_worker_43 rfl ⟨rfl, rfl⟩
      · have h := hf9 qh; clear ht9 hf9
        refine g_iload_n K dX12_worker_20 rfl 3 rfl ?_
        refine g_iconst (v := 0) K dX12_worker_21 (by decide) ?_
        refine g_bipush (v := 99) K dX12_worker_22 (by decide) ?_
        obtain ⟨z_3, hz_3, h⟩ := gi_bd h
        refine g_callSi (As := [.int x3, .int 0, .int 99]) (bytes := cX12_in) (maxL := 3) (ret := (some .boolean)) K (ctX12_in (ws := mw (g_E Γ) m r o (gu A 1 a1)) x3 0 99 (res := z_3) hz_3) gc_S_RX12_50_X12_in rfl qs_X12_in hRm rfl rfl rfl (by decide) (Nat.le_of_ble_eq_true rfl) (by decide) dX12_worker_24 (fun v w hw => ?_)
        obtain ⟨hv9, rfl⟩ := hw; have hv9 := hv9.symm; subst hv9
        obtain ⟨ht9, hf9⟩ := gi_br h; clear h
        refine g_if_eq (tgt := 41) K dX12_worker_27 (by decide) (fun qh => ?_) (fun qh => ?_)
        · have h := ht9 qh; clear ht9 hf9
          refine g_bipush (v := (-2)) K dX12_worker_41 (by decide) ?_
          obtain rfl := Option.some.inj h
          exact hret _ _ _ _ dX12_worker_43 rfl ⟨rfl, rfl⟩
        · have h := hf9 qh; clear ht9 hf9
          refine g_iload K dX12_worker_30 4 rfl ?_
          refine g_iconst (v := 0) K dX12_worker_32 (by decide) ?_
          refine g_bipush (v := 9) K dX12_worker_33 (by decide) ?_
          obtain ⟨z_4, hz_4, h⟩ := gi_bd h
          refine g_callSi (As := [.int x4, .int 0, .int 9]) (bytes := cX12_in) (maxL := 3) (ret := (some .boolean)) K (ctX12_in (ws := mw (g_E Γ) m r o (gu A 1 a1)) x4 0 9 (res := z_4) hz_4) gc_S_RX12_50_X12_in rfl qs_X12_in hRm rfl rfl rfl (by decide) (Nat.le_of_ble_eq_true rfl) (by decide) dX12_worker_35 (fun v w hw => ?_)
          obtain ⟨hv9, rfl⟩ := hw; have hv9 := hv9.symm; subst hv9
          obtain ⟨ht9, hf9⟩ := gi_br h; clear h
          refine g_if_ne (tgt := 44) K dX12_worker_38 (by decide) (fun qh => ?_) (fun qh => ?_)
          · have h := hf9 qh; clear ht9 hf9
            refine g_aload_n K dX12_worker_44 rfl 0 rfl ?_
            refine mg_1 K hin_X12 (u_980) dX12_worker_45 ?_
            refine g_bipush (v := 51) K dX12_worker_48 (by decide) ?_
            obtain ⟨b_5, h⟩ := gi_none h
            refine g_iald (f := a1) K 1 rfl (ginb_in b_5) dX12_worker_50 ?_
            refine g_bipush (v := 10) K dX12_worker_51 (by decide) ?_
            obtain ⟨ht9, hf9⟩ := gi_br h; clear h
            refine g_icmp_ne (tgt := 59) K dX12_worker_53 (by decide) (fun qh => ?_) (fun qh => ?_)
            · have h := hf9 qh; clear ht9 hf9
              refine g_aload_n K dX12_worker_59 rfl 0 rfl ?_
              refine mg_1 K hin_X12 (u_980) dX12_worker_60 ?_
              refine g_bipush (v := 51) K dX12_worker_63 (by decide) ?_
              obtain ⟨b_6, h⟩ := gi_none h
              refine g_iald (f := a1) K 1 rfl (ginb_in b_6) dX12_worker_65 ?_
              obtain ⟨v_7, ev_7, h⟩ := gi_nm h
              refine g_topi ev_7 ?_
              refine g_istore (L' := [(5, .int v_7), (0, .ref m), (1, .int x1), (2, .int x2), (3, .int x3), (4, .int x4)]) K dX12_worker_66 (hlt _ (by decide)) rfl ?_
              refine g_aload_n K dX12_worker_68 rfl 1 rfl ?_
              refine mg_1 K hin_X12 (u_980) dX12_worker_69 ?_
              refine g_bipush (v := 31) K dX12_worker_72 (by decide) ?_
              refine g_iload K dX12_worker_74 0 rfl ?_
              refine g_iadd K dX12_worker_76 ?_
              refine g_iload_n K dX12_worker_77 rfl 2 rfl ?_
              obtain ⟨b_8, h⟩ := gi_none h
              obtain ⟨f_9, ef_9, h⟩ := gi_nm h
              refine g_iast (f := a1) (ws' := mw (g_E Γ) m r o (gu A 1 f_9)) K 1 rfl (ginb_in b_8) dX12_worker_78 (by rw [ef_9]; rfl) ?_
              refine g_aload_n K dX12_worker_79 rfl 1 rfl ?_
              refine mg_1 K hin_X12 (u_980) dX12_worker_80 ?_
              refine g_iconst (v := 1) K dX12_worker_83 (by decide) ?_
              refine g_iload K dX12_worker_84 0 rfl ?_
              refine g_iadd K dX12_worker_86 ?_
              refine g_iload_n K dX12_worker_87 rfl 3 rfl ?_
              obtain ⟨b_10, h⟩ := gi_none h
              obtain ⟨f_11, ef_11, h⟩ := gi_nm h
              refine g_iast (f := f_9) (ws' := mw (g_E Γ) m r o (gu A 1 f_11)) K 1 rfl (ginb_in b_10) dX12_worker_88 (by rw [ef_11]; rfl) ?_
              refine g_aload_n K dX12_worker_89 rfl 1 rfl ?_
              refine mg_1 K hin_X12 (u_980) dX12_worker_90 ?_
              refine g_bipush (v := 11) K dX12_worker_93 (by decide) ?_
              refine g_iload K dX12_worker_95 0 rfl ?_
              refine g_iadd K dX12_worker_97 ?_
              refine g_iload_n K dX12_worker_98 rfl 4 rfl ?_
              obtain ⟨b_12, h⟩ := gi_none h
              obtain ⟨f_13, ef_13, h⟩ := gi_nm h
              refine g_iast (f := f_11) (ws' := mw (g_E Γ) m r o (gu A 1 f_13)) K 1 rfl (ginb_in b_12) dX12_worker_99 (by rw [ef_13]; rfl) ?_
              refine g_aload_n K dX12_worker_100 rfl 1 rfl ?_
              refine mg_1 K hin_X12 (u_980) dX12_worker_101 ?_
              refine g_bipush (v := 41) K dX12_worker_104 (by decide) ?_
              refine g_iload K dX12_worker_106 0 rfl ?_
              refine g_iadd K dX12_worker_108 ?_
              refine g_iload K dX12_worker_109 5 rfl ?_
              obtain ⟨b_14, h⟩ := gi_none h
              obtain ⟨f_15, ef_15, h⟩ := gi_nm h
              refine g_iast (f := f_13) (ws' := mw (g_E Γ) m r o (gu A 1 f_15)) K 1 rfl (ginb_in b_14) dX12_worker_111 (by rw [ef_15]; rfl) ?_
              refine g_aload_n K dX12_worker_112 rfl 1 rfl ?_
              refine mg_1 K hin_X12 (u_980) dX12_worker_113 ?_
              refine g_bipush (v := 21) K dX12_worker_116 (by decide) ?_
              refine g_iload K dX12_worker_118 0 rfl ?_
              refine g_iadd K dX12_worker_120 ?_
              refine g_iconst (v := 0) K dX12_worker_121 (by decide) ?_
              obtain ⟨b_16, h⟩ := gi_none h
              obtain ⟨f_17, ef_17, h⟩ := gi_nm h
              refine g_iast (f := f_15) (ws' := mw (g_E Γ) m r o (gu A 1 f_17)) K 1 rfl (ginb_in b_16) dX12_worker_122 (by rw [ef_17]; rfl) ?_
              refine g_aload_n K dX12_worker_123 rfl 1 rfl ?_
              refine mg_1 K hin_X12 (u_980) dX12_worker_124 ?_
              refine g_bipush (v := 51) K dX12_worker_127 (by decide) ?_
              refine g_dup2 K dX12_worker_129 rfl rfl ?_
              obtain ⟨b_18, h⟩ := gi_none h
              refine g_iald (f := f_17) K 1 rfl (ginb_in b_18) dX12_worker_130 ?_
              refine g_iconst (v := 1) K dX12_worker_131 (by decide) ?_
              refine g_iadd K dX12_worker_132 ?_
              obtain ⟨b_19, h⟩ := gi_none h
              obtain ⟨f_20, ef_20, h⟩ := gi_nm h
              refine g_iast (f := f_17) (ws' := mw (g_E Γ) m r o (gu A 1 f_20)) K 1 rfl (ginb_in b_19) dX12_worker_133 (by rw [ef_20]; rfl) ?_
              refine g_iload K dX12_worker_134 0 rfl ?_
              obtain rfl := Option.some.inj h
              exact hret _ _ _ _ dX12_worker_136 rfl ⟨rfl, rfl⟩
            · have h := ht9 qh; clear ht9 hf9
              refine g_bipush (v := (-4)) K dX12_worker_56 (by decide) ?_
              obtain rfl := Option.some.inj h
              exact hret _ _ _ _ dX12_worker_58 rfl ⟨rfl, rfl⟩
          · have h := ht9 qh; clear ht9 hf9
            refine g_bipush (v := (-2)) K dX12_worker_41 (by decide) ?_
            obtain rfl := Option.some.inj h
            exact hret _ _ _ _ dX12_worker_43 rfl ⟨rfl, rfl⟩
    · have h := ht9 qh; clear ht9 hf9
      refine g_iconst (v := (-1)) K dX12_worker_8 (by decide) ?_
      obtain rfl := Option.some.inj h
      exact hret _ _ _ _ dX12_worker_9 rfl ⟨rfl, rfl⟩

set_option maxRecDepth 100000 in
theorem ctX12_worker {E : gE} {m : Nat} {r : Nat → Nat} (o : Nat → Int32) (A : Nat → Nat → Int32) (x1 : Int32) (x2 : Int32) (x3 : Int32) (x4 : Int32) {res : Int32 × ((Nat → Int32))} (h : pX12_worker (A 1) x1 x2 x3 x4 = some res) : gMi yX12_worker (.code yX12_worker cX12_worker 6 (some .int) :: gU) ({ frames := 6, cells := 0, slots := 0, locals := 193 } : Room) 0 0 E [.ref m, .int x1, .int x2, .int x3, .int x4] (mw E m r o A) (fun v w => v = res.1 ∧ w = mw E m r o (gu A 1 res.2)) := by
  refine g_met_i (by decide +kernel) (Nat.le_of_ble_eq_true rfl) (fun Γ K hn hE hRm _ hret => ?_)
  subst hE
  have hlt : ∀ i, i < 6 → i < g_n Γ := fun i q => by rw [hn]; exact q
  refine g_ws (ws' := mw (g_E Γ) m r o (gu A 1 (A 1))) rfl ?_
  refine g_sub (L' := [(0, .ref m), (1, .int x1), (2, .int x2), (3, .int x3), (4, .int x4)]) [0, 1, 2, 3, 4] rfl ?_
  exact wX12_worker K hlt hRm hret (A 1) x1 x2 x3 x4 h

set_option maxHeartbeats 4000000 in
set_option maxRecDepth 100000 in
theorem wX12_isWorker {Γ : gT} {m : Nat} {r : Nat → Nat} {o : Nat → Int32} {A : Nat → Nat → Int32} (K : gOK Γ cX12_isWorker gU RX12) (hlt : ∀ i, i < 2 → i < g_n Γ) (hRm : g_R Γ = ({ frames := 5, cells := 0, slots := 0, locals := 172 } : Room)) {res : Int32} (hret : ∀ (pc : Nat) (L : List (Nat × Value)) (v : Int32) (w : va_W), decode cX12_isWorker pc = .ok (.ireturn, 1) → narrow .boolean (.int v) = .int v → (v = res ∧ w = mw (g_E Γ) m r o A) → gGO Γ 0 0 pc L [.int v] w) (x1 : Int32) (h : pX12_isWorker (A 1) x1 = some res) : gGO Γ 0 0 0 [(0, .ref m), (1, .int x1)] [] (mw (g_E Γ) m r o A) := by
    unfold pX12_isWorker at h
    refine g_iload_n K dX12_isWorker_0 rfl 1 rfl ?_
    refine g_iconst (v := 0) K dX12_isWorker_1 (by decide) ?_
    refine g_aload_n K dX12_isWorker_2 rfl 0 rfl ?_
    refine mg_1 K hin_X12 (u_980) dX12_isWorker_3 ?_
    refine g_bipush (v := 51) K dX12_isWorker_6 (by decide) ?_
    obtain ⟨b_1, h⟩ := gi_none h
    refine g_iald (f := (A 1)) K 1 rfl (ginb_in b_1) dX12_isWorker_8 ?_
    refine g_iconst (v := 1) K dX12_isWorker_9 (by decide) ?_
    refine g_isub K dX12_isWorker_10 ?_
    obtain ⟨z_2, hz_2, h⟩ := gi_bd h
    refine g_callSi (As := [.int x1, .int 0, .int (((A 1) (Int32.toNatClampNeg 51)) - 1)]) (bytes := cX12_in) (maxL := 3) (ret := (some .boolean)) K (ctX12_in (ws := mw (g_E Γ) m r o A) x1 0 (((A 1) (Int32.toNatClampNeg 51)) - 1) (res := z_2) hz_2) gc_S_RX12_50_X12_in rfl qs_X12_in hRm rfl rfl rfl (by decide) (Nat.le_of_ble_eq_true rfl) (by decide) dX12_isWorker_11 (fun v w hw => ?_)
    obtain ⟨hv9, rfl⟩ := hw; have hv9 := hv9.symm; subst hv9
    obtain ⟨c_3, h⟩ := gi_none h
    obtain rfl := Option.some.inj h
    exact hret _ _ _ _ dX12_isWorker_14 (gbool_nar c_3) ⟨rfl, rfl⟩

set_option maxRecDepth 100000 in
theorem ctX12_isWorker {E : gE} {m : Nat} {r : Nat → Nat} (o : Nat → Int32) (A : Nat → Nat → Int32) (x1 : Int32) {res : Int32} (h : pX12_isWorker (A 1) x1 = some res) : gMi yX12_isWorker (.code yX12_isWorker cX12_isWorker 2 (some .boolean) :: gU) ({ frames := 5, cells := 0, slots := 0, locals := 172 } : Room) 0 0 E [.ref m, .int x1] (mw E m r o A) (fun v w => v = res ∧ w = mw E m r o A) := by
  refine g_met_i (by decide +kernel) (Nat.le_of_ble_eq_true rfl) (fun Γ K hn hE hRm _ hret => ?_)
  subst hE
  have hlt : ∀ i, i < 2 → i < g_n Γ := fun i q => by rw [hn]; exact q
  refine g_sub (L' := [(0, .ref m), (1, .int x1)]) [0, 1] rfl ?_
  exact wX12_isWorker K hlt hRm hret x1 h

set_option maxHeartbeats 4000000 in
set_option maxRecDepth 100000 in
theorem wX12_meanOf_62 {Γ : gT} {m : Nat} {r : Nat → Nat} {o : Nat → Int32} {A : Nat → Nat → Int32} (K : gOK Γ cX12_meanOf gU RX12) (hlt : ∀ i, i < 6 → i < g_n Γ) (hRm : g_R Γ = ({ frames := 4, cells := 0, slots := 0, locals := 150 } : Room)) {res : Int32} (hret : ∀ (pc : Nat) (L : List (Nat × Value)) (v : Int32) (w : va_W), decode cX12_meanOf pc = .ok (.ireturn, 1) → narrow .int (.int v) = .int v → (v = res ∧ w = mw (g_E Γ) m r o A) → gGO Γ 0 0 pc L [.int v] w) {k7 : Int32 → Int32 → Int32 → Int32 → Option (Int32)} (hk7 : ∀ (x1 : Int32) (x2 : Int32) (x3 : Int32) (x4 : Int32), k7 x1 x2 x3 x4 = some res → gGO Γ 0 0 7 [(0, .ref m), (1, .int x1), (2, .int x2), (3, .int x3), (4, .int x4)] [] (mw (g_E Γ) m r o A)) (x1 : Int32) (x3 : Int32) (x4 : Int32) (x5 : Int32) (y0 : Int32) (y1 : Int32) (h : pX12_meanOf_62 k7 (A 1) (A 12) x1 x3 x4 x5 y0 y1 = some res) : gGO Γ 0 0 62 [(0, .ref m), (1, .int x1), (3, .int x3), (4, .int x4), (5, .int x5)] [.int y1, .int y0] (mw (g_E Γ) m r o A) := by
    unfold pX12_meanOf_62 at h
    refine g_iadd K dX12_meanOf_62 ?_
    obtain ⟨v_1, ev_1, h⟩ := gi_nm h
    refine g_topi ev_1 ?_
    refine g_istore_n (L' := [(2, .int v_1), (0, .ref m), (1, .int x1), (3, .int x3), (4, .int x4), (5, .int x5)]) K dX12_meanOf_63 rfl (hlt _ (by decide)) rfl ?_
    refine g_iload_n K dX12_meanOf_64 rfl 3 rfl ?_
    refine g_iload K dX12_meanOf_65 5 rfl ?_
    obtain ⟨ht9, hf9⟩ := gi_br h; clear h
    refine g_if_eq (tgt := 74) K dX12_meanOf_67 (by decide) (fun qh => ?_) (fun qh => ?_)
    · have h := ht9 qh; clear ht9 hf9
      refine g_iconst (v := 0) K dX12_meanOf_74 (by decide) ?_
      refine g_iadd K dX12_meanOf_75 ?_
      obtain ⟨v_2, ev_2, h⟩ := gi_nm h
      refine g_topi ev_2 ?_
      refine g_istore_n (L' := [(3, .int v_2), (2, .int v_1), (0, .ref m), (1, .int x1), (4, .int x4), (5, .int x5)]) K dX12_meanOf_76 rfl (hlt _ (by decide)) rfl ?_
      refine g_iinc (v := (x4 + 1)) (L' := [(4, .int (x4 + 1)), (3, .int v_2), (2, .int v_1), (0, .ref m), (1, .int x1), (5, .int x5)]) K dX12_meanOf_77 4 rfl rfl (hlt _ (by decide)) rfl ?_
      refine g_goto (tgt := 7) K dX12_meanOf_80 (by decide) ?_
      refine g_sub (L' := [(0, .ref m), (1, .int x1), (2, .int v_1), (3, .int v_2), (4, .int (x4 + 1))]) [3, 4, 2, 1, 0] rfl ?_
      exact hk7 x1 v_1 v_2 (x4 + 1) h
    · have h := hf9 qh; clear ht9 hf9
      refine g_iconst (v := 1) K dX12_meanOf_70 (by decide) ?_
      refine g_goto (tgt := 75) K dX12_meanOf_71 (by decide) ?_
      refine g_iadd K dX12_meanOf_75 ?_
      obtain ⟨v_3, ev_3, h⟩ := gi_nm h
      refine g_topi ev_3 ?_
      refine g_istore_n (L' := [(3, .int v_3), (2, .int v_1), (0, .ref m), (1, .int x1), (4, .int x4), (5, .int x5)]) K dX12_meanOf_76 rfl (hlt _ (by decide)) rfl ?_
      refine g_iinc (v := (x4 + 1)) (L' := [(4, .int (x4 + 1)), (3, .int v_3), (2, .int v_1), (0, .ref m), (1, .int x1), (5, .int x5)]) K dX12_meanOf_77 4 rfl rfl (hlt _ (by decide)) rfl ?_
      refine g_goto (tgt := 7) K dX12_meanOf_80 (by decide) ?_
      refine g_sub (L' := [(0, .ref m), (1, .int x1), (2, .int v_1), (3, .int v_3), (4, .int (x4 + 1))]) [3, 4, 2, 1, 0] rfl ?_
      exact hk7 x1 v_1 v_3 (x4 + 1) h

set_option maxHeartbeats 4000000 in
set_option maxRecDepth 100000 in
theorem wX12_meanOf_7 {Γ : gT} {m : Nat} {r : Nat → Nat} {o : Nat → Int32} {A : Nat → Nat → Int32} (K : gOK Γ cX12_meanOf gU RX12) (hlt : ∀ i, i < 6 → i < g_n Γ) (hRm : g_R Γ = ({ frames := 4, cells := 0, slots := 0, locals := 150 } : Room)) {res : Int32} (hret : ∀ (pc : Nat) (L : List (Nat × Value)) (v : Int32) (w : va_W), decode cX12_meanOf pc = .ok (.ireturn, 1) → narrow .int (.int v) = .int v → (v = res ∧ w = mw (g_E Γ) m r o A) → gGO Γ 0 0 pc L [.int v] w) : ∀ (n : Nat) (x1 : Int32) (x2 : Int32) (x3 : Int32) (x4 : Int32), pX12_meanOf_7 (A 1) (A 12) n x1 x2 x3 x4 = some res → gGO Γ 0 0 7 [(0, .ref m), (1, .int x1), (2, .int x2), (3, .int x3), (4, .int x4)] [] (mw (g_E Γ) m r o A) := by
  intro n
  induction n with
  | zero => intro _ _ _ _ h; cases h
  | succ n ih =>
    intro x1 x2 x3 x4 h
    simp only [pX12_meanOf_7] at h
    refine g_iload K dX12_meanOf_7 4 rfl ?_
    refine g_aload_n K dX12_meanOf_9 rfl 0 rfl ?_
    refine mg_1 K hin_X12 (u_980) dX12_meanOf_10 ?_
    refine g_bipush (v := 51) K dX12_meanOf_13 (by decide) ?_
    obtain ⟨b_1, h⟩ := gi_none h
    refine g_iald (f := (A 1)) K 1 rfl (ginb_in b_1) dX12_meanOf_15 ?_
    obtain ⟨ht9, hf9⟩ := gi_br h; clear h
    refine g_icmp_ge (tgt := 83) K dX12_meanOf_16 (by decide) (fun qh => ?_) (fun qh => ?_)
    · have h := ht9 qh; clear ht9 hf9
      refine g_iload_n K dX12_meanOf_83 rfl 3 rfl ?_
      obtain ⟨ht9, hf9⟩ := gi_br h; clear h
      refine g_if_ne (tgt := 91) K dX12_meanOf_84 (by decide) (fun qh => ?_) (fun qh => ?_)
      · have h := hf9 qh; clear ht9 hf9
        refine g_iload_n K dX12_meanOf_91 rfl 2 rfl ?_
        refine g_iload_n K dX12_meanOf_92 rfl 3 rfl ?_
        obtain ⟨c_2, h⟩ := gi_none h
        refine g_idiv K dX12_meanOf_93 c_2 ?_
        obtain rfl := Option.some.inj h
        exact hret _ _ _ _ dX12_meanOf_94 rfl ⟨rfl, rfl⟩
      · have h := ht9 qh; clear ht9 hf9
        refine g_iconst (v := 0) K dX12_meanOf_87 (by decide) ?_
        refine g_goto (tgt := 94) K dX12_meanOf_88 (by decide) ?_
        obtain rfl := Option.some.inj h
        exact hret _ _ _ _ dX12_meanOf_94 rfl ⟨rfl, rfl⟩
    · have h := hf9 qh; clear ht9 hf9
      refine g_iload_n K dX12_meanOf_19 rfl 1 rfl ?_
      refine g_iconst (v := (-1)) K dX12_meanOf_20 (by decide) ?_
      obtain ⟨ht9, hf9⟩ := gi_br h; clear h
      refine g_icmp_eq (tgt := 38) K dX12_meanOf_21 (by decide) (fun qh => ?_) (fun qh => ?_)
      · have h := ht9 qh; clear ht9 hf9
        refine g_iconst (v := 1) K dX12_meanOf_38 (by decide) ?_
        refine g_goto (tgt := 43) K dX12_meanOf_39 (by decide) ?_
        refine g_istore (L' := [(5, .int 1), (0, .ref m), (1, .int x1), (2, .int x2), (3, .int x3), (4, .int x4)]) K dX12_meanOf_43 (hlt _ (by decide)) rfl ?_
        refine g_iload_n K dX12_meanOf_45 rfl 3 rfl ?_
        refine g_iload K dX12_meanOf_46 0 rfl ?_
        refine g_if_eq (tgt := 61) K dX12_meanOf_48 (by decide) (fun qh => absurd qh (by decide)) (fun qh => ?_)
        refine g_aload_n K dX12_meanOf_51 rfl 1 rfl ?_
        refine mg_12 K hin_X12 (u_991) dX12_meanOf_52 ?_
        refine g_iload K dX12_meanOf_55 5 rfl ?_
        obtain ⟨b_3, h⟩ := gi_none h
        refine g_iald (f := (A 12)) K 6 rfl (ginb_in b_3) dX12_meanOf_57 ?_
        refine g_goto (tgt := 62) K dX12_meanOf_58 (by decide) ?_
        refine g_sub (L' := [(0, .ref m), (1, .int x1), (3, .int x3), (4, .int x4), (5, .int 1)]) [1, 2, 4, 5, 0] rfl ?_
        exact wX12_meanOf_62 K hlt hRm hret ih x1 x3 x4 1 x2 ((A 12) (Int32.toNatClampNeg x4)) h
      · have h := hf9 qh; clear ht9 hf9
        refine g_aload_n K dX12_meanOf_24 rfl 0 rfl ?_
        refine mg_1 K hin_X12 (u_980) dX12_meanOf_25 ?_
        refine g_bipush (v := 31) K dX12_meanOf_28 (by decide) ?_
        refine g_iload K dX12_meanOf_30 4 rfl ?_
        refine g_iadd K dX12_meanOf_32 ?_
        obtain ⟨b_4, h⟩ := gi_none h
        refine g_iald (f := (A 1)) K 1 rfl (ginb_in b_4) dX12_meanOf_33 ?_
        refine g_iload_n K dX12_meanOf_34 rfl 1 rfl ?_
        obtain ⟨ht9, hf9⟩ := gi_br h; clear h
        refine g_icmp_ne (tgt := 42) K dX12_meanOf_35 (by decide) (fun qh => ?_) (fun qh => ?_)
        · have h := hf9 qh; clear ht9 hf9
          refine g_iconst (v := 0) K dX12_meanOf_42 (by decide) ?_
          refine g_istore (L' := [(5, .int 0), (0, .ref m), (1, .int x1), (2, .int x2), (3, .int x3), (4, .int x4)]) K dX12_meanOf_43 (hlt _ (by decide)) rfl ?_
          refine g_iload_n K dX12_meanOf_45 rfl 3 rfl ?_
          refine g_iload K dX12_meanOf_46 0 rfl ?_
          refine g_if_eq (tgt := 61) K dX12_meanOf_48 (by decide) (fun qh => ?_) (fun qh => absurd qh (by decide))
          refine g_iconst (v := 0) K dX12_meanOf_61 (by decide) ?_
          refine g_sub (L' := [(0, .ref m), (1, .int x1), (3, .int x3), (4, .int x4), (5, .int 0)]) [1, 2, 4, 5, 0] rfl ?_
          exact wX12_meanOf_62 K hlt hRm hret ih x1 x3 x4 0 x2 0 h
        · have h := ht9 qh; clear ht9 hf9
          refine g_iconst (v := 1) K dX12_meanOf_38 (by decide) ?_
          refine g_goto (tgt := 43) K dX12_meanOf_39 (by decide) ?_
          refine g_istore (L' := [(5, .int 1), (0, .ref m), (1, .int x1), (2, .int x2), (3, .int x3), (4, .int x4)]) K dX12_meanOf_43 (hlt _ (by decide)) rfl ?_
          refine g_iload_n K dX12_meanOf_45 rfl 3 rfl ?_
          refine g_iload K dX12_meanOf_46 0 rfl ?_
          refine g_if_eq (tgt := 61) K dX12_meanOf_48 (by decide) (fun qh => absurd qh (by decide)) (fun qh => ?_)
          refine g_aload_n K dX12_meanOf_51 rfl 1 rfl ?_
          refine mg_12 K hin_X12 (u_991) dX12_meanOf_52 ?_
          refine g_iload K dX12_meanOf_55 5 rfl ?_
          obtain ⟨b_5, h⟩ := gi_none h
          refine g_iald (f := (A 12)) K 6 rfl (ginb_in b_5) dX12_meanOf_57 ?_
          refine g_goto (tgt := 62) K dX12_meanOf_58 (by decide) ?_
          refine g_sub (L' := [(0, .ref m), (1, .int x1), (3, .int x3), (4, .int x4), (5, .int 1)]) [1, 2, 4, 5, 0] rfl ?_
          exact wX12_meanOf_62 K hlt hRm hret ih x1 x3 x4 1 x2 ((A 12) (Int32.toNatClampNeg x4)) h

set_option maxHeartbeats 4000000 in
set_option maxRecDepth 100000 in
theorem wX12_meanOf {Γ : gT} {m : Nat} {r : Nat → Nat} {o : Nat → Int32} {A : Nat → Nat → Int32} (K : gOK Γ cX12_meanOf gU RX12) (hlt : ∀ i, i < 6 → i < g_n Γ) (hRm : g_R Γ = ({ frames := 4, cells := 0, slots := 0, locals := 150 } : Room)) {res : Int32} (hret : ∀ (pc : Nat) (L : List (Nat × Value)) (v : Int32) (w : va_W), decode cX12_meanOf pc = .ok (.ireturn, 1) → narrow .int (.int v) = .int v → (v = res ∧ w = mw (g_E Γ) m r o A) → gGO Γ 0 0 pc L [.int v] w) (x1 : Int32) (h : pX12_meanOf (A 1) (A 12) x1 = some res) : gGO Γ 0 0 0 [(0, .ref m), (1, .int x1)] [] (mw (g_E Γ) m r o A) := by
    unfold pX12_meanOf at h
    refine g_iconst (v := 0) K dX12_meanOf_0 (by decide) ?_
    refine g_istore_n (L' := [(2, .int 0), (0, .ref m), (1, .int x1)]) K dX12_meanOf_1 rfl (hlt _ (by decide)) rfl ?_
    refine g_iconst (v := 0) K dX12_meanOf_2 (by decide) ?_
    refine g_istore_n (L' := [(3, .int 0), (2, .int 0), (0, .ref m), (1, .int x1)]) K dX12_meanOf_3 rfl (hlt _ (by decide)) rfl ?_
    refine g_iconst (v := 0) K dX12_meanOf_4 (by decide) ?_
    refine g_istore (L' := [(4, .int 0), (3, .int 0), (2, .int 0), (0, .ref m), (1, .int x1)]) K dX12_meanOf_5 (hlt _ (by decide)) rfl ?_
    refine g_sub (L' := [(0, .ref m), (1, .int x1), (2, .int 0), (3, .int 0), (4, .int 0)]) [3, 4, 2, 1, 0] rfl ?_
    exact wX12_meanOf_7 K hlt hRm hret 1000 x1 0 0 0 h

set_option maxRecDepth 100000 in
theorem ctX12_meanOf {E : gE} {m : Nat} {r : Nat → Nat} (o : Nat → Int32) (A : Nat → Nat → Int32) (x1 : Int32) {res : Int32} (h : pX12_meanOf (A 1) (A 12) x1 = some res) : gMi yX12_meanOf (.code yX12_meanOf cX12_meanOf 6 (some .int) :: gU) ({ frames := 4, cells := 0, slots := 0, locals := 150 } : Room) 0 0 E [.ref m, .int x1] (mw E m r o A) (fun v w => v = res ∧ w = mw E m r o A) := by
  refine g_met_i (by decide +kernel) (Nat.le_of_ble_eq_true rfl) (fun Γ K hn hE hRm _ hret => ?_)
  subst hE
  have hlt : ∀ i, i < 6 → i < g_n Γ := fun i q => by rw [hn]; exact q
  refine g_sub (L' := [(0, .ref m), (1, .int x1)]) [0, 1] rfl ?_
  exact wX12_meanOf K hlt hRm hret x1 h

set_option maxHeartbeats 4000000 in
set_option maxRecDepth 100000 in
theorem wX12_inTeam_4 {Γ : gT} {m : Nat} {r : Nat → Nat} {o : Nat → Int32} {A : Nat → Nat → Int32} (K : gOK Γ cX12_inTeam gU RX12) (hlt : ∀ i, i < 3 → i < g_n Γ) (hRm : g_R Γ = ({ frames := 4, cells := 0, slots := 0, locals := 150 } : Room)) {res : Int32} (hret : ∀ (pc : Nat) (L : List (Nat × Value)) (v : Int32) (w : va_W), decode cX12_inTeam pc = .ok (.ireturn, 1) → narrow .int (.int v) = .int v → (v = res ∧ w = mw (g_E Γ) m r o A) → gGO Γ 0 0 pc L [.int v] w) : ∀ (n : Nat) (x1 : Int32) (x2 : Int32), pX12_inTeam_4 (A 1) (A 15) n x1 x2 = some res → gGO Γ 0 0 4 [(0, .ref m), (1, .int x1), (2, .int x2)] [] (mw (g_E Γ) m r o A) := by
  intro n
  induction n with
  | zero => intro _ _ h; cases h
  | succ n ih =>
    intro x1 x2 h
    simp only [pX12_inTeam_4] at h
    refine g_iload_n K dX12_inTeam_4 rfl 2 rfl ?_
    refine g_aload_n K dX12_inTeam_5 rfl 0 rfl ?_
    refine mg_1 K hin_X12 (u_980) dX12_inTeam_6 ?_
    refine g_bipush (v := 51) K dX12_inTeam_9 (by decide) ?_
    obtain ⟨b_1, h⟩ := gi_none h
    refine g_iald (f := (A 1)) K 1 rfl (ginb_in b_1) dX12_inTeam_11 ?_
    obtain ⟨ht9, hf9⟩ := gi_br h; clear h
    refine g_icmp_ge (tgt := 38) K dX12_inTeam_12 (by decide) (fun qh => ?_) (fun qh => ?_)
    · have h := ht9 qh; clear ht9 hf9
      refine g_iload_n K dX12_inTeam_38 rfl 1 rfl ?_
      obtain rfl := Option.some.inj h
      exact hret _ _ _ _ dX12_inTeam_39 rfl ⟨rfl, rfl⟩
    · have h := hf9 qh; clear ht9 hf9
      refine g_iload_n K dX12_inTeam_15 rfl 1 rfl ?_
      refine g_aload_n K dX12_inTeam_16 rfl 0 rfl ?_
      refine mg_15 K hin_X12 (u_994) dX12_inTeam_17 ?_
      refine g_iload_n K dX12_inTeam_20 rfl 2 rfl ?_
      obtain ⟨b_2, h⟩ := gi_none h
      refine g_zald (f := (A 15)) K 9 rfl (ginb_in b_2) dX12_inTeam_21 ?_
      obtain ⟨ht9, hf9⟩ := gi_br h; clear h
      refine g_if_eq (tgt := 29) K dX12_inTeam_22 (by decide) (fun qh => ?_) (fun qh => ?_)
      · have h := ht9 qh; clear ht9 hf9
        refine g_iconst (v := 0) K dX12_inTeam_29 (by decide) ?_
        refine g_iadd K dX12_inTeam_30 ?_
        obtain ⟨v_3, ev_3, h⟩ := gi_nm h
        refine g_topi ev_3 ?_
        refine g_istore_n (L' := [(1, .int v_3), (0, .ref m), (2, .int x2)]) K dX12_inTeam_31 rfl (hlt _ (by decide)) rfl ?_
        refine g_iinc (v := (x2 + 1)) (L' := [(2, .int (x2 + 1)), (1, .int v_3), (0, .ref m)]) K dX12_inTeam_32 2 rfl rfl (hlt _ (by decide)) rfl ?_
        refine g_goto (tgt := 4) K dX12_inTeam_35 (by decide) ?_
        refine g_sub (L' := [(0, .ref m), (1, .int v_3), (2, .int (x2 + 1))]) [2, 1, 0] rfl ?_
        exact ih v_3 (x2 + 1) h
      · have h := hf9 qh; clear ht9 hf9
        refine g_iconst (v := 1) K dX12_inTeam_25 (by decide) ?_
        refine g_goto (tgt := 30) K dX12_inTeam_26 (by decide) ?_
        refine g_iadd K dX12_inTeam_30 ?_
        obtain ⟨v_4, ev_4, h⟩ := gi_nm h
        refine g_topi ev_4 ?_
        refine g_istore_n (L' := [(1, .int v_4), (0, .ref m), (2, .int x2)]) K dX12_inTeam_31 rfl (hlt _ (by decide)) rfl ?_
        refine g_iinc (v := (x2 + 1)) (L' := [(2, .int (x2 + 1)), (1, .int v_4), (0, .ref m)]) K dX12_inTeam_32 2 rfl rfl (hlt _ (by decide)) rfl ?_
        refine g_goto (tgt := 4) K dX12_inTeam_35 (by decide) ?_
        refine g_sub (L' := [(0, .ref m), (1, .int v_4), (2, .int (x2 + 1))]) [2, 1, 0] rfl ?_
        exact ih v_4 (x2 + 1) h

set_option maxHeartbeats 4000000 in
set_option maxRecDepth 100000 in
theorem wX12_inTeam {Γ : gT} {m : Nat} {r : Nat → Nat} {o : Nat → Int32} {A : Nat → Nat → Int32} (K : gOK Γ cX12_inTeam gU RX12) (hlt : ∀ i, i < 3 → i < g_n Γ) (hRm : g_R Γ = ({ frames := 4, cells := 0, slots := 0, locals := 150 } : Room)) {res : Int32} (hret : ∀ (pc : Nat) (L : List (Nat × Value)) (v : Int32) (w : va_W), decode cX12_inTeam pc = .ok (.ireturn, 1) → narrow .int (.int v) = .int v → (v = res ∧ w = mw (g_E Γ) m r o A) → gGO Γ 0 0 pc L [.int v] w) (h : pX12_inTeam (A 1) (A 15) = some res) : gGO Γ 0 0 0 [(0, .ref m)] [] (mw (g_E Γ) m r o A) := by
    unfold pX12_inTeam at h
    refine g_iconst (v := 0) K dX12_inTeam_0 (by decide) ?_
    refine g_istore_n (L' := [(1, .int 0), (0, .ref m)]) K dX12_inTeam_1 rfl (hlt _ (by decide)) rfl ?_
    refine g_iconst (v := 0) K dX12_inTeam_2 (by decide) ?_
    refine g_istore_n (L' := [(2, .int 0), (1, .int 0), (0, .ref m)]) K dX12_inTeam_3 rfl (hlt _ (by decide)) rfl ?_
    refine g_sub (L' := [(0, .ref m), (1, .int 0), (2, .int 0)]) [2, 1, 0] rfl ?_
    exact wX12_inTeam_4 K hlt hRm hret 1000 0 0 h

set_option maxRecDepth 100000 in
theorem ctX12_inTeam {E : gE} {m : Nat} {r : Nat → Nat} (o : Nat → Int32) (A : Nat → Nat → Int32) {res : Int32} (h : pX12_inTeam (A 1) (A 15) = some res) : gMi yX12_inTeam (.code yX12_inTeam cX12_inTeam 3 (some .int) :: gU) ({ frames := 4, cells := 0, slots := 0, locals := 150 } : Room) 0 0 E [.ref m] (mw E m r o A) (fun v w => v = res ∧ w = mw E m r o A) := by
  refine g_met_i (by decide +kernel) (Nat.le_of_ble_eq_true rfl) (fun Γ K hn hE hRm _ hret => ?_)
  subst hE
  have hlt : ∀ i, i < 3 → i < g_n Γ := fun i q => by rw [hn]; exact q
  refine g_sub (L' := [(0, .ref m)]) [0] rfl ?_
  exact wX12_inTeam K hlt hRm hret h

set_option maxHeartbeats 4000000 in
set_option maxRecDepth 100000 in
theorem wX12_shareOf {Γ : gT} {m : Nat} {r : Nat → Nat} {o : Nat → Int32} {A : Nat → Nat → Int32} (K : gOK Γ cX12_shareOf gU RX12) (hlt : ∀ i, i < 2 → i < g_n Γ) (hRm : g_R Γ = ({ frames := 5, cells := 0, slots := 0, locals := 172 } : Room)) {res : Int32} (hret : ∀ (pc : Nat) (L : List (Nat × Value)) (v : Int32) (w : va_W), decode cX12_shareOf pc = .ok (.ireturn, 1) → narrow .int (.int v) = .int v → (v = res ∧ w = mw (g_E Γ) m r o A) → gGO Γ 0 0 pc L [.int v] w) (x1 : Int32) (h : pX12_shareOf (A 1) (A 15) x1 = some res) : gGO Γ 0 0 0 [(0, .ref m), (1, .int x1)] [] (mw (g_E Γ) m r o A) := by
    unfold pX12_shareOf at h
    refine g_iload_n K dX12_shareOf_0 rfl 1 rfl ?_
    refine g_aload_n K dX12_shareOf_1 rfl 0 rfl ?_
    obtain ⟨z_1, hz_1, h⟩ := gi_bd h
    refine g_callVi (As := []) (bytes := cX12_inTeam) (maxL := 3) (ret := (some .int)) K (ctX12_inTeam o A (res := z_1) hz_1) gc_V_RX12_158_X12_inTeam rfl qv_X12_inTeam 0 rfl rfl rfl hRm rfl rfl rfl (by decide) (Nat.le_of_ble_eq_true rfl) (by decide) dX12_shareOf_2 (fun v w hw => ?_)
    obtain ⟨hv9, rfl⟩ := hw; have hv9 := hv9.symm; subst hv9
    refine g_imul K dX12_shareOf_5 ?_
    refine g_bipush (v := 10) K dX12_shareOf_6 (by decide) ?_
    refine g_idiv K dX12_shareOf_8 (by decide) ?_
    obtain rfl := Option.some.inj h
    exact hret _ _ _ _ dX12_shareOf_9 rfl ⟨rfl, rfl⟩

set_option maxRecDepth 100000 in
theorem ctX12_shareOf {E : gE} {m : Nat} {r : Nat → Nat} (o : Nat → Int32) (A : Nat → Nat → Int32) (x1 : Int32) {res : Int32} (h : pX12_shareOf (A 1) (A 15) x1 = some res) : gMi yX12_shareOf (.code yX12_shareOf cX12_shareOf 2 (some .int) :: gU) ({ frames := 5, cells := 0, slots := 0, locals := 172 } : Room) 0 0 E [.ref m, .int x1] (mw E m r o A) (fun v w => v = res ∧ w = mw E m r o A) := by
  refine g_met_i (by decide +kernel) (Nat.le_of_ble_eq_true rfl) (fun Γ K hn hE hRm _ hret => ?_)
  subst hE
  have hlt : ∀ i, i < 2 → i < g_n Γ := fun i q => by rw [hn]; exact q
  refine g_sub (L' := [(0, .ref m), (1, .int x1)]) [0, 1] rfl ?_
  exact wX12_shareOf K hlt hRm hret x1 h

set_option maxHeartbeats 4000000 in
set_option maxRecDepth 100000 in
theorem wX12_gradeBy {Γ : gT} {ws : va_W} (K : gOK Γ cX12_gradeBy gU RX12) (hlt : ∀ i, i < 1 → i < g_n Γ) (hRm : g_R Γ = ({ frames := 4, cells := 0, slots := 0, locals := 150 } : Room)) {res : Int32} (hret : ∀ (pc : Nat) (L : List (Nat × Value)) (v : Int32) (w : va_W), decode cX12_gradeBy pc = .ok (.ireturn, 1) → narrow .int (.int v) = .int v → (v = res ∧ w = ws) → gGO Γ 0 0 pc L [.int v] w) (x0 : Int32) (h : pX12_gradeBy x0 = some res) : gGO Γ 0 0 0 [(0, .int x0)] [] (ws) := by
    unfold pX12_gradeBy at h
    refine g_iload_n K dX12_gradeBy_0 rfl 0 rfl ?_
    refine g_bipush (v := 80) K dX12_gradeBy_1 (by decide) ?_
    obtain ⟨ht9, hf9⟩ := gi_br h; clear h
    refine g_icmp_lt (tgt := 10) K dX12_gradeBy_3 (by decide) (fun qh => ?_) (fun qh => ?_)
    · have h := ht9 qh; clear ht9 hf9
      refine g_iload_n K dX12_gradeBy_10 rfl 0 rfl ?_
      refine g_bipush (v := 60) K dX12_gradeBy_11 (by decide) ?_
      obtain ⟨ht9, hf9⟩ := gi_br h; clear h
      refine g_icmp_lt (tgt := 20) K dX12_gradeBy_13 (by decide) (fun qh => ?_) (fun qh => ?_)
      · have h := ht9 qh; clear ht9 hf9
        refine g_iload_n K dX12_gradeBy_20 rfl 0 rfl ?_
        refine g_bipush (v := 40) K dX12_gradeBy_21 (by decide) ?_
        obtain ⟨ht9, hf9⟩ := gi_br h; clear h
        refine g_icmp_lt (tgt := 30) K dX12_gradeBy_23 (by decide) (fun qh => ?_) (fun qh => ?_)
        · have h := ht9 qh; clear ht9 hf9
          refine g_iload_n K dX12_gradeBy_30 rfl 0 rfl ?_
          refine g_bipush (v := 20) K dX12_gradeBy_31 (by decide) ?_
          obtain ⟨ht9, hf9⟩ := gi_br h; clear h
          refine g_icmp_lt (tgt := 40) K dX12_gradeBy_33 (by decide) (fun qh => ?_) (fun qh => ?_)
          · have h := ht9 qh; clear ht9 hf9
            refine g_iconst (v := 1) K dX12_gradeBy_40 (by decide) ?_
            obtain rfl := Option.some.inj h
            exact hret _ _ _ _ dX12_gradeBy_41 rfl ⟨rfl, rfl⟩
          · have h := hf9 qh; clear ht9 hf9
            refine g_iconst (v := 2) K dX12_gradeBy_36 (by decide) ?_
            refine g_goto (tgt := 41) K dX12_gradeBy_37 (by decide) ?_
            obtain rfl := Option.some.inj h
            exact hret _ _ _ _ dX12_gradeBy_41 rfl ⟨rfl, rfl⟩
        · have h := hf9 qh; clear ht9 hf9
          refine g_iconst (v := 3) K dX12_gradeBy_26 (by decide) ?_
          refine g_goto (tgt := 41) K dX12_gradeBy_27 (by decide) ?_
          obtain rfl := Option.some.inj h
          exact hret _ _ _ _ dX12_gradeBy_41 rfl ⟨rfl, rfl⟩
      · have h := hf9 qh; clear ht9 hf9
        refine g_iconst (v := 4) K dX12_gradeBy_16 (by decide) ?_
        refine g_goto (tgt := 41) K dX12_gradeBy_17 (by decide) ?_
        obtain rfl := Option.some.inj h
        exact hret _ _ _ _ dX12_gradeBy_41 rfl ⟨rfl, rfl⟩
    · have h := hf9 qh; clear ht9 hf9
      refine g_iconst (v := 5) K dX12_gradeBy_6 (by decide) ?_
      refine g_goto (tgt := 41) K dX12_gradeBy_7 (by decide) ?_
      obtain rfl := Option.some.inj h
      exact hret _ _ _ _ dX12_gradeBy_41 rfl ⟨rfl, rfl⟩

set_option maxRecDepth 100000 in
theorem ctX12_gradeBy {E : gE} {ws : va_W} (x0 : Int32) {res : Int32} (h : pX12_gradeBy x0 = some res) : gMi yX12_gradeBy (.code yX12_gradeBy cX12_gradeBy 1 (some .int) :: gU) ({ frames := 4, cells := 0, slots := 0, locals := 150 } : Room) 0 0 E [.int x0] ws (fun v w => v = res ∧ w = ws) := by
  refine g_met_i (by decide +kernel) (Nat.le_of_ble_eq_true rfl) (fun Γ K hn hE hRm _ hret => ?_)
  subst hE
  have hlt : ∀ i, i < 1 → i < g_n Γ := fun i q => by rw [hn]; exact q
  refine g_sub (L' := [(0, .int x0)]) [0] rfl ?_
  exact wX12_gradeBy K hlt hRm hret x0 h

set_option maxHeartbeats 4000000 in
set_option maxRecDepth 100000 in
theorem wX12_givesFives_at13_137 {Γ : gT} {m : Nat} {r : Nat → Nat} {o : Nat → Int32} {A : Nat → Nat → Int32} (K : gOK Γ cX12_givesFives gU RX12) (hlt : ∀ i, i < 7 → i < g_n Γ) (hRm : g_R Γ = ({ frames := 5, cells := 0, slots := 0, locals := 170 } : Room)) {res : ((Nat → Int32))} (hret : ∀ (pc : Nat) (L : List (Nat × Value)) (w : va_W), decode cX12_givesFives pc = .ok (.return_, 1) → (w = mw (g_E Γ) m r o (gu A 13 res)) → gGO Γ 0 0 pc L [] w) {k2 : (Nat → Int32) → Int32 → Int32 → Option (((Nat → Int32)))} (hk2 : ∀ (a13 : (Nat → Int32)) (x2 : Int32) (x3 : Int32), k2 a13 x2 x3 = some res → gGO Γ 0 0 2 [(0, .ref m), (1, .ref (r 13)), (2, .int x2), (3, .int x3)] [] (mw (g_E Γ) m r o (gu A 13 a13))) (a13 : (Nat → Int32)) (x2 : Int32) (x3 : Int32) (x4 : Int32) (h : pX12_givesFives_at13_137 k2 (A 1) (A 12) (A 15) a13 x2 x3 x4 = some res) : gGO Γ 0 0 137 [(0, .ref m), (1, .ref (r 13)), (2, .int x2), (3, .int x3), (4, .int x4)] [] (mw (g_E Γ) m r o (gu A 13 a13)) := by
    unfold pX12_givesFives_at13_137 at h
    refine g_aload_n K dX12_givesFives_137 rfl 1 rfl ?_
    refine g_iload_n K dX12_givesFives_138 rfl 3 rfl ?_
    refine g_iload K dX12_givesFives_139 4 rfl ?_
    refine g_iload_n K dX12_givesFives_141 rfl 2 rfl ?_
    obtain ⟨ht9, hf9⟩ := gi_br h; clear h
    refine g_icmp_ge (tgt := 149) K dX12_givesFives_142 (by decide) (fun qh => ?_) (fun qh => ?_)
    · have h := ht9 qh; clear ht9 hf9
      refine g_iconst (v := 4) K dX12_givesFives_149 (by decide) ?_
      obtain ⟨b_1, h⟩ := gi_none h
      obtain ⟨f_2, ef_2, h⟩ := gi_nm h
      refine g_iast (f := a13) (ws' := mw (g_E Γ) m r o (gu A 13 f_2)) K 7 rfl (ginb_in b_1) dX12_givesFives_150 (by rw [ef_2]; rfl) ?_
      refine g_iinc (v := (x3 + 1)) (L' := [(3, .int (x3 + 1)), (0, .ref m), (1, .ref (r 13)), (2, .int x2), (4, .int x4)]) K dX12_givesFives_151 3 rfl rfl (hlt _ (by decide)) rfl ?_
      refine g_goto (tgt := 2) K dX12_givesFives_154 (by decide) ?_
      refine g_sub (L' := [(0, .ref m), (1, .ref (r 13)), (2, .int x2), (3, .int (x3 + 1))]) [1, 2, 3, 0] rfl ?_
      exact hk2 f_2 x2 (x3 + 1) h
    · have h := hf9 qh; clear ht9 hf9
      refine g_iconst (v := 5) K dX12_givesFives_145 (by decide) ?_
      refine g_goto (tgt := 150) K dX12_givesFives_146 (by decide) ?_
      obtain ⟨b_3, h⟩ := gi_none h
      obtain ⟨f_4, ef_4, h⟩ := gi_nm h
      refine g_iast (f := a13) (ws' := mw (g_E Γ) m r o (gu A 13 f_4)) K 7 rfl (ginb_in b_3) dX12_givesFives_150 (by rw [ef_4]; rfl) ?_
      refine g_iinc (v := (x3 + 1)) (L' := [(3, .int (x3 + 1)), (0, .ref m), (1, .ref (r 13)), (2, .int x2), (4, .int x4)]) K dX12_givesFives_151 3 rfl rfl (hlt _ (by decide)) rfl ?_
      refine g_goto (tgt := 2) K dX12_givesFives_154 (by decide) ?_
      refine g_sub (L' := [(0, .ref m), (1, .ref (r 13)), (2, .int x2), (3, .int (x3 + 1))]) [1, 2, 3, 0] rfl ?_
      exact hk2 f_4 x2 (x3 + 1) h

set_option maxHeartbeats 4000000 in
set_option maxRecDepth 100000 in
theorem wX12_givesFives_at13_76 {Γ : gT} {m : Nat} {r : Nat → Nat} {o : Nat → Int32} {A : Nat → Nat → Int32} (K : gOK Γ cX12_givesFives gU RX12) (hlt : ∀ i, i < 7 → i < g_n Γ) (hRm : g_R Γ = ({ frames := 5, cells := 0, slots := 0, locals := 170 } : Room)) {res : ((Nat → Int32))} (hret : ∀ (pc : Nat) (L : List (Nat × Value)) (w : va_W), decode cX12_givesFives pc = .ok (.return_, 1) → (w = mw (g_E Γ) m r o (gu A 13 res)) → gGO Γ 0 0 pc L [] w) {k2 : (Nat → Int32) → Int32 → Int32 → Option (((Nat → Int32)))} (hk2 : ∀ (a13 : (Nat → Int32)) (x2 : Int32) (x3 : Int32), k2 a13 x2 x3 = some res → gGO Γ 0 0 2 [(0, .ref m), (1, .ref (r 13)), (2, .int x2), (3, .int x3)] [] (mw (g_E Γ) m r o (gu A 13 a13))) {k35 : (Nat → Int32) → Int32 → Int32 → Int32 → Int32 → Option (((Nat → Int32)))} (hk35 : ∀ (a13 : (Nat → Int32)) (x2 : Int32) (x3 : Int32) (x4 : Int32) (x5 : Int32), k35 a13 x2 x3 x4 x5 = some res → gGO Γ 0 0 35 [(0, .ref m), (1, .ref (r 13)), (2, .int x2), (3, .int x3), (4, .int x4), (5, .int x5)] [] (mw (g_E Γ) m r o (gu A 13 a13))) (a13 : (Nat → Int32)) (x2 : Int32) (x3 : Int32) (x4 : Int32) (x5 : Int32) (y0 : Int32) (h : pX12_givesFives_at13_76 k2 k35 (A 1) (A 12) (A 15) a13 x2 x3 x4 x5 y0 = some res) : gGO Γ 0 0 76 [(0, .ref m), (1, .ref (r 13)), (2, .int x2), (3, .int x3), (4, .int x4), (5, .int x5)] [.int y0] (mw (g_E Γ) m r o (gu A 13 a13)) := by
    unfold pX12_givesFives_at13_76 at h
    refine g_istore (L' := [(6, .int y0), (0, .ref m), (1, .ref (r 13)), (2, .int x2), (3, .int x3), (4, .int x4), (5, .int x5)]) K dX12_givesFives_76 (hlt _ (by decide)) rfl ?_
    refine g_iload K dX12_givesFives_78 5 rfl ?_
    refine g_iload K dX12_givesFives_80 0 rfl ?_
    obtain ⟨ht9, hf9⟩ := gi_br h; clear h
    refine g_if_eq (tgt := 127) K dX12_givesFives_82 (by decide) (fun qh => ?_) (fun qh => ?_)
    · have h := ht9 qh; clear ht9 hf9
      refine g_iconst (v := 0) K dX12_givesFives_127 (by decide) ?_
      refine g_iadd K dX12_givesFives_128 ?_
      obtain ⟨v_1, ev_1, h⟩ := gi_nm h
      refine g_topi ev_1 ?_
      refine g_istore (L' := [(4, .int v_1), (6, .int y0), (0, .ref m), (1, .ref (r 13)), (2, .int x2), (3, .int x3), (5, .int x5)]) K dX12_givesFives_129 (hlt _ (by decide)) rfl ?_
      refine g_iinc (v := (x5 + 1)) (L' := [(5, .int (x5 + 1)), (4, .int v_1), (6, .int y0), (0, .ref m), (1, .ref (r 13)), (2, .int x2), (3, .int x3)]) K dX12_givesFives_131 6 rfl rfl (hlt _ (by decide)) rfl ?_
      refine g_goto (tgt := 35) K dX12_givesFives_134 (by decide) ?_
      refine g_sub (L' := [(0, .ref m), (1, .ref (r 13)), (2, .int x2), (3, .int x3), (4, .int v_1), (5, .int (x5 + 1))]) [3, 4, 5, 6, 1, 0] rfl ?_
      exact hk35 a13 x2 x3 v_1 (x5 + 1) h
    · have h := hf9 qh; clear ht9 hf9
      refine g_aload_n K dX12_givesFives_85 rfl 1 rfl ?_
      refine mg_12 K hin_X12 (u_991) dX12_givesFives_86 ?_
      refine g_iload K dX12_givesFives_89 6 rfl ?_
      obtain ⟨b_2, h⟩ := gi_none h
      refine g_iald (f := (A 12)) K 6 rfl (ginb_in b_2) dX12_givesFives_91 ?_
      refine g_aload_n K dX12_givesFives_92 rfl 1 rfl ?_
      refine mg_12 K hin_X12 (u_991) dX12_givesFives_93 ?_
      refine g_iload_n K dX12_givesFives_96 rfl 4 rfl ?_
      obtain ⟨b_3, h⟩ := gi_none h
      refine g_iald (f := (A 12)) K 6 rfl (ginb_in b_3) dX12_givesFives_97 ?_
      obtain ⟨ht9, hf9⟩ := gi_br h; clear h
      refine g_icmp_gt (tgt := 123) K dX12_givesFives_98 (by decide) (fun qh => ?_) (fun qh => ?_)
      · have h := ht9 qh; clear ht9 hf9
        refine g_iconst (v := 1) K dX12_givesFives_123 (by decide) ?_
        refine g_goto (tgt := 128) K dX12_givesFives_124 (by decide) ?_
        refine g_iadd K dX12_givesFives_128 ?_
        obtain ⟨v_4, ev_4, h⟩ := gi_nm h
        refine g_topi ev_4 ?_
        refine g_istore (L' := [(4, .int v_4), (6, .int y0), (0, .ref m), (1, .ref (r 13)), (2, .int x2), (3, .int x3), (5, .int x5)]) K dX12_givesFives_129 (hlt _ (by decide)) rfl ?_
        refine g_iinc (v := (x5 + 1)) (L' := [(5, .int (x5 + 1)), (4, .int v_4), (6, .int y0), (0, .ref m), (1, .ref (r 13)), (2, .int x2), (3, .int x3)]) K dX12_givesFives_131 6 rfl rfl (hlt _ (by decide)) rfl ?_
        refine g_goto (tgt := 35) K dX12_givesFives_134 (by decide) ?_
        refine g_sub (L' := [(0, .ref m), (1, .ref (r 13)), (2, .int x2), (3, .int x3), (4, .int v_4), (5, .int (x5 + 1))]) [3, 4, 5, 6, 1, 0] rfl ?_
        exact hk35 a13 x2 x3 v_4 (x5 + 1) h
      · have h := hf9 qh; clear ht9 hf9
        refine g_aload_n K dX12_givesFives_101 rfl 1 rfl ?_
        refine mg_12 K hin_X12 (u_991) dX12_givesFives_102 ?_
        refine g_iload K dX12_givesFives_105 6 rfl ?_
        obtain ⟨b_5, h⟩ := gi_none h
        refine g_iald (f := (A 12)) K 6 rfl (ginb_in b_5) dX12_givesFives_107 ?_
        refine g_aload_n K dX12_givesFives_108 rfl 1 rfl ?_
        refine mg_12 K hin_X12 (u_991) dX12_givesFives_109 ?_
        refine g_iload_n K dX12_givesFives_112 rfl 4 rfl ?_
        obtain ⟨b_6, h⟩ := gi_none h
        refine g_iald (f := (A 12)) K 6 rfl (ginb_in b_6) dX12_givesFives_113 ?_
        obtain ⟨ht9, hf9⟩ := gi_br h; clear h
        refine g_icmp_ne (tgt := 127) K dX12_givesFives_114 (by decide) (fun qh => ?_) (fun qh => ?_)
        · have h := hf9 qh; clear ht9 hf9
          refine g_iconst (v := 0) K dX12_givesFives_127 (by decide) ?_
          refine g_iadd K dX12_givesFives_128 ?_
          obtain ⟨v_7, ev_7, h⟩ := gi_nm h
          refine g_topi ev_7 ?_
          refine g_istore (L' := [(4, .int v_7), (6, .int y0), (0, .ref m), (1, .ref (r 13)), (2, .int x2), (3, .int x3), (5, .int x5)]) K dX12_givesFives_129 (hlt _ (by decide)) rfl ?_
          refine g_iinc (v := (x5 + 1)) (L' := [(5, .int (x5 + 1)), (4, .int v_7), (6, .int y0), (0, .ref m), (1, .ref (r 13)), (2, .int x2), (3, .int x3)]) K dX12_givesFives_131 6 rfl rfl (hlt _ (by decide)) rfl ?_
          refine g_goto (tgt := 35) K dX12_givesFives_134 (by decide) ?_
          refine g_sub (L' := [(0, .ref m), (1, .ref (r 13)), (2, .int x2), (3, .int x3), (4, .int v_7), (5, .int (x5 + 1))]) [3, 4, 5, 6, 1, 0] rfl ?_
          exact hk35 a13 x2 x3 v_7 (x5 + 1) h
        · have h := ht9 qh; clear ht9 hf9
          refine g_iload K dX12_givesFives_117 6 rfl ?_
          refine g_iload_n K dX12_givesFives_119 rfl 4 rfl ?_
          obtain ⟨ht9, hf9⟩ := gi_br h; clear h
          refine g_icmp_ge (tgt := 127) K dX12_givesFives_120 (by decide) (fun qh => ?_) (fun qh => ?_)
          · have h := ht9 qh; clear ht9 hf9
            refine g_iconst (v := 0) K dX12_givesFives_127 (by decide) ?_
            refine g_iadd K dX12_givesFives_128 ?_
            obtain ⟨v_8, ev_8, h⟩ := gi_nm h
            refine g_topi ev_8 ?_
            refine g_istore (L' := [(4, .int v_8), (6, .int y0), (0, .ref m), (1, .ref (r 13)), (2, .int x2), (3, .int x3), (5, .int x5)]) K dX12_givesFives_129 (hlt _ (by decide)) rfl ?_
            refine g_iinc (v := (x5 + 1)) (L' := [(5, .int (x5 + 1)), (4, .int v_8), (6, .int y0), (0, .ref m), (1, .ref (r 13)), (2, .int x2), (3, .int x3)]) K dX12_givesFives_131 6 rfl rfl (hlt _ (by decide)) rfl ?_
            refine g_goto (tgt := 35) K dX12_givesFives_134 (by decide) ?_
            refine g_sub (L' := [(0, .ref m), (1, .ref (r 13)), (2, .int x2), (3, .int x3), (4, .int v_8), (5, .int (x5 + 1))]) [3, 4, 5, 6, 1, 0] rfl ?_
            exact hk35 a13 x2 x3 v_8 (x5 + 1) h
          · have h := hf9 qh; clear ht9 hf9
            refine g_iconst (v := 1) K dX12_givesFives_123 (by decide) ?_
            refine g_goto (tgt := 128) K dX12_givesFives_124 (by decide) ?_
            refine g_iadd K dX12_givesFives_128 ?_
            obtain ⟨v_9, ev_9, h⟩ := gi_nm h
            refine g_topi ev_9 ?_
            refine g_istore (L' := [(4, .int v_9), (6, .int y0), (0, .ref m), (1, .ref (r 13)), (2, .int x2), (3, .int x3), (5, .int x5)]) K dX12_givesFives_129 (hlt _ (by decide)) rfl ?_
            refine g_iinc (v := (x5 + 1)) (L' := [(5, .int (x5 + 1)), (4, .int v_9), (6, .int y0), (0, .ref m), (1, .ref (r 13)), (2, .int x2), (3, .int x3)]) K dX12_givesFives_131 6 rfl rfl (hlt _ (by decide)) rfl ?_
            refine g_goto (tgt := 35) K dX12_givesFives_134 (by decide) ?_
            refine g_sub (L' := [(0, .ref m), (1, .ref (r 13)), (2, .int x2), (3, .int x3), (4, .int v_9), (5, .int (x5 + 1))]) [3, 4, 5, 6, 1, 0] rfl ?_
            exact hk35 a13 x2 x3 v_9 (x5 + 1) h

set_option maxHeartbeats 4000000 in
set_option maxRecDepth 100000 in
theorem wX12_givesFives_at13_35 {Γ : gT} {m : Nat} {r : Nat → Nat} {o : Nat → Int32} {A : Nat → Nat → Int32} (K : gOK Γ cX12_givesFives gU RX12) (hlt : ∀ i, i < 7 → i < g_n Γ) (hRm : g_R Γ = ({ frames := 5, cells := 0, slots := 0, locals := 170 } : Room)) {res : ((Nat → Int32))} (hret : ∀ (pc : Nat) (L : List (Nat × Value)) (w : va_W), decode cX12_givesFives pc = .ok (.return_, 1) → (w = mw (g_E Γ) m r o (gu A 13 res)) → gGO Γ 0 0 pc L [] w) {k2 : (Nat → Int32) → Int32 → Int32 → Option (((Nat → Int32)))} (hk2 : ∀ (a13 : (Nat → Int32)) (x2 : Int32) (x3 : Int32), k2 a13 x2 x3 = some res → gGO Γ 0 0 2 [(0, .ref m), (1, .ref (r 13)), (2, .int x2), (3, .int x3)] [] (mw (g_E Γ) m r o (gu A 13 a13))) : ∀ (n : Nat) (a13 : (Nat → Int32)) (x2 : Int32) (x3 : Int32) (x4 : Int32) (x5 : Int32), pX12_givesFives_at13_35 k2 (A 1) (A 12) (A 15) n a13 x2 x3 x4 x5 = some res → gGO Γ 0 0 35 [(0, .ref m), (1, .ref (r 13)), (2, .int x2), (3, .int x3), (4, .int x4), (5, .int x5)] [] (mw (g_E Γ) m r o (gu A 13 a13)) := by
  intro n
  induction n with
  | zero => intro _ _ _ _ _ h; cases h
  | succ n ih =>
    intro a13 x2 x3 x4 x5 h
    simp only [pX12_givesFives_at13_35] at h
    refine g_iload K dX12_givesFives_35 5 rfl ?_
    refine g_aload_n K dX12_givesFives_37 rfl 0 rfl ?_
    refine mg_1 K hin_X12 (u_980) dX12_givesFives_38 ?_
    refine g_bipush (v := 51) K dX12_givesFives_41 (by decide) ?_
    obtain ⟨b_1, h⟩ := gi_none h
    refine g_iald (f := (A 1)) K 1 rfl (ginb_in b_1) dX12_givesFives_43 ?_
    obtain ⟨ht9, hf9⟩ := gi_br h; clear h
    refine g_icmp_ge (tgt := 137) K dX12_givesFives_44 (by decide) (fun qh => ?_) (fun qh => ?_)
    · have h := ht9 qh; clear ht9 hf9
      refine g_sub (L' := [(0, .ref m), (1, .ref (r 13)), (2, .int x2), (3, .int x3), (4, .int x4)]) [0, 1, 2, 3, 4] rfl ?_
      exact wX12_givesFives_at13_137 K hlt hRm hret hk2 a13 x2 x3 x4 h
    · have h := hf9 qh; clear ht9 hf9
      refine g_aload_n K dX12_givesFives_47 rfl 0 rfl ?_
      refine mg_15 K hin_X12 (u_994) dX12_givesFives_48 ?_
      refine g_iload K dX12_givesFives_51 5 rfl ?_
      obtain ⟨b_2, h⟩ := gi_none h
      refine g_zald (f := (A 15)) K 9 rfl (ginb_in b_2) dX12_givesFives_53 ?_
      obtain ⟨ht9, hf9⟩ := gi_br h; clear h
      refine g_if_eq (tgt := 75) K dX12_givesFives_54 (by decide) (fun qh => ?_) (fun qh => ?_)
      · have h := ht9 qh; clear ht9 hf9
        refine g_iconst (v := 0) K dX12_givesFives_75 (by decide) ?_
        exact wX12_givesFives_at13_76 K hlt hRm hret hk2 ih a13 x2 x3 x4 x5 0 h
      · have h := hf9 qh; clear ht9 hf9
        refine g_aload_n K dX12_givesFives_57 rfl 0 rfl ?_
        refine mg_12 K hin_X12 (u_991) dX12_givesFives_58 ?_
        refine g_iload K dX12_givesFives_61 5 rfl ?_
        obtain ⟨b_3, h⟩ := gi_none h
        refine g_iald (f := (A 12)) K 6 rfl (ginb_in b_3) dX12_givesFives_63 ?_
        obtain ⟨z_4, hz_4, h⟩ := gi_bd h
        refine g_callSi (As := [.int ((A 12) (Int32.toNatClampNeg x5))]) (bytes := cX12_gradeBy) (maxL := 1) (ret := (some .int)) K (ctX12_gradeBy (ws := mw (g_E Γ) m r o (gu A 13 a13)) ((A 12) (Int32.toNatClampNeg x5)) (res := z_4) hz_4) gc_S_RX12_155_X12_gradeBy rfl qs_X12_gradeBy hRm rfl rfl rfl (by decide) (Nat.le_of_ble_eq_true rfl) (by decide) dX12_givesFives_64 (fun v w hw => ?_)
        obtain ⟨hv9, rfl⟩ := hw; have hv9 := hv9.symm; subst hv9
        refine g_iconst (v := 5) K dX12_givesFives_67 (by decide) ?_
        obtain ⟨ht9, hf9⟩ := gi_br h; clear h
        refine g_icmp_ne (tgt := 75) K dX12_givesFives_68 (by decide) (fun qh => ?_) (fun qh => ?_)
        · have h := hf9 qh; clear ht9 hf9
          refine g_iconst (v := 0) K dX12_givesFives_75 (by decide) ?_
          exact wX12_givesFives_at13_76 K hlt hRm hret hk2 ih a13 x2 x3 x4 x5 0 h
        · have h := ht9 qh; clear ht9 hf9
          refine g_iconst (v := 1) K dX12_givesFives_71 (by decide) ?_
          refine g_goto (tgt := 76) K dX12_givesFives_72 (by decide) ?_
          exact wX12_givesFives_at13_76 K hlt hRm hret hk2 ih a13 x2 x3 x4 x5 1 h

set_option maxHeartbeats 4000000 in
set_option maxRecDepth 100000 in
theorem wX12_givesFives_at13_2 {Γ : gT} {m : Nat} {r : Nat → Nat} {o : Nat → Int32} {A : Nat → Nat → Int32} (K : gOK Γ cX12_givesFives gU RX12) (hlt : ∀ i, i < 7 → i < g_n Γ) (hRm : g_R Γ = ({ frames := 5, cells := 0, slots := 0, locals := 170 } : Room)) {res : ((Nat → Int32))} (hret : ∀ (pc : Nat) (L : List (Nat × Value)) (w : va_W), decode cX12_givesFives pc = .ok (.return_, 1) → (w = mw (g_E Γ) m r o (gu A 13 res)) → gGO Γ 0 0 pc L [] w) : ∀ (n : Nat) (a13 : (Nat → Int32)) (x2 : Int32) (x3 : Int32), pX12_givesFives_at13_2 (A 1) (A 12) (A 15) n a13 x2 x3 = some res → gGO Γ 0 0 2 [(0, .ref m), (1, .ref (r 13)), (2, .int x2), (3, .int x3)] [] (mw (g_E Γ) m r o (gu A 13 a13)) := by
  intro n
  induction n with
  | zero => intro _ _ _ h; cases h
  | succ n ih =>
    intro a13 x2 x3 h
    simp only [pX12_givesFives_at13_2] at h
    refine g_iload_n K dX12_givesFives_2 rfl 3 rfl ?_
    refine g_aload_n K dX12_givesFives_3 rfl 0 rfl ?_
    refine mg_1 K hin_X12 (u_980) dX12_givesFives_4 ?_
    refine g_bipush (v := 51) K dX12_givesFives_7 (by decide) ?_
    obtain ⟨b_1, h⟩ := gi_none h
    refine g_iald (f := (A 1)) K 1 rfl (ginb_in b_1) dX12_givesFives_9 ?_
    obtain ⟨ht9, hf9⟩ := gi_br h; clear h
    refine g_icmp_ge (tgt := 157) K dX12_givesFives_10 (by decide) (fun qh => ?_) (fun qh => ?_)
    · have h := ht9 qh; clear ht9 hf9
      obtain rfl := Option.some.inj h
      exact hret _ _ _ dX12_givesFives_157 rfl
    · have h := hf9 qh; clear ht9 hf9
      refine g_aload_n K dX12_givesFives_13 rfl 0 rfl ?_
      refine mg_15 K hin_X12 (u_994) dX12_givesFives_14 ?_
      refine g_iload_n K dX12_givesFives_17 rfl 3 rfl ?_
      obtain ⟨b_2, h⟩ := gi_none h
      refine g_zald (f := (A 15)) K 9 rfl (ginb_in b_2) dX12_givesFives_18 ?_
      obtain ⟨ht9, hf9⟩ := gi_br h; clear h
      refine g_if_eq (tgt := 151) K dX12_givesFives_19 (by decide) (fun qh => ?_) (fun qh => ?_)
      · have h := ht9 qh; clear ht9 hf9
        refine g_iinc (v := (x3 + 1)) (L' := [(3, .int (x3 + 1)), (0, .ref m), (1, .ref (r 13)), (2, .int x2)]) K dX12_givesFives_151 3 rfl rfl (hlt _ (by decide)) rfl ?_
        refine g_goto (tgt := 2) K dX12_givesFives_154 (by decide) ?_
        refine g_sub (L' := [(0, .ref m), (1, .ref (r 13)), (2, .int x2), (3, .int (x3 + 1))]) [1, 2, 3, 0] rfl ?_
        exact ih a13 x2 (x3 + 1) h
      · have h := hf9 qh; clear ht9 hf9
        refine g_aload_n K dX12_givesFives_22 rfl 1 rfl ?_
        refine g_iload_n K dX12_givesFives_23 rfl 3 rfl ?_
        obtain ⟨b_3, h⟩ := gi_none h
        refine g_iald (f := a13) K 7 rfl (ginb_in b_3) dX12_givesFives_24 ?_
        refine g_iconst (v := 5) K dX12_givesFives_25 (by decide) ?_
        obtain ⟨ht9, hf9⟩ := gi_br h; clear h
        refine g_icmp_ne (tgt := 151) K dX12_givesFives_26 (by decide) (fun qh => ?_) (fun qh => ?_)
        · have h := hf9 qh; clear ht9 hf9
          refine g_iinc (v := (x3 + 1)) (L' := [(3, .int (x3 + 1)), (0, .ref m), (1, .ref (r 13)), (2, .int x2)]) K dX12_givesFives_151 3 rfl rfl (hlt _ (by decide)) rfl ?_
          refine g_goto (tgt := 2) K dX12_givesFives_154 (by decide) ?_
          refine g_sub (L' := [(0, .ref m), (1, .ref (r 13)), (2, .int x2), (3, .int (x3 + 1))]) [1, 2, 3, 0] rfl ?_
          exact ih a13 x2 (x3 + 1) h
        · have h := ht9 qh; clear ht9 hf9
          refine g_iconst (v := 0) K dX12_givesFives_29 (by decide) ?_
          refine g_istore (L' := [(4, .int 0), (0, .ref m), (1, .ref (r 13)), (2, .int x2), (3, .int x3)]) K dX12_givesFives_30 (hlt _ (by decide)) rfl ?_
          refine g_iconst (v := 0) K dX12_givesFives_32 (by decide) ?_
          refine g_istore (L' := [(5, .int 0), (4, .int 0), (0, .ref m), (1, .ref (r 13)), (2, .int x2), (3, .int x3)]) K dX12_givesFives_33 (hlt _ (by decide)) rfl ?_
          refine g_sub (L' := [(0, .ref m), (1, .ref (r 13)), (2, .int x2), (3, .int x3), (4, .int 0), (5, .int 0)]) [2, 3, 4, 5, 1, 0] rfl ?_
          exact wX12_givesFives_at13_35 K hlt hRm hret ih 1000 a13 x2 x3 0 0 h

set_option maxHeartbeats 4000000 in
set_option maxRecDepth 100000 in
theorem wX12_givesFives_at13 {Γ : gT} {m : Nat} {r : Nat → Nat} {o : Nat → Int32} {A : Nat → Nat → Int32} (K : gOK Γ cX12_givesFives gU RX12) (hlt : ∀ i, i < 7 → i < g_n Γ) (hRm : g_R Γ = ({ frames := 5, cells := 0, slots := 0, locals := 170 } : Room)) {res : ((Nat → Int32))} (hret : ∀ (pc : Nat) (L : List (Nat × Value)) (w : va_W), decode cX12_givesFives pc = .ok (.return_, 1) → (w = mw (g_E Γ) m r o (gu A 13 res)) → gGO Γ 0 0 pc L [] w) (a13 : (Nat → Int32)) (x2 : Int32) (h : pX12_givesFives_at13 (A 1) (A 12) (A 15) a13 x2 = some res) : gGO Γ 0 0 0 [(0, .ref m), (1, .ref (r 13)), (2, .int x2)] [] (mw (g_E Γ) m r o (gu A 13 a13)) := by
    unfold pX12_givesFives_at13 at h
    refine g_iconst (v := 0) K dX12_givesFives_0 (by decide) ?_
    refine g_istore_n (L' := [(3, .int 0), (0, .ref m), (1, .ref (r 13)), (2, .int x2)]) K dX12_givesFives_1 rfl (hlt _ (by decide)) rfl ?_
    refine g_sub (L' := [(0, .ref m), (1, .ref (r 13)), (2, .int x2), (3, .int 0)]) [1, 2, 3, 0] rfl ?_
    exact wX12_givesFives_at13_2 K hlt hRm hret 1000 a13 x2 0 h

set_option maxRecDepth 100000 in
theorem ctX12_givesFives_at13 {E : gE} {m : Nat} {r : Nat → Nat} (o : Nat → Int32) (A : Nat → Nat → Int32) (x2 : Int32) {res : ((Nat → Int32))} (h : pX12_givesFives_at13 (A 1) (A 12) (A 15) (A 13) x2 = some res) : gMv yX12_givesFives (.code yX12_givesFives cX12_givesFives 7 none :: gU) ({ frames := 5, cells := 0, slots := 0, locals := 170 } : Room) 0 0 E [.ref m, .ref (r 13), .int x2] (mw E m r o A) (fun w => w = mw E m r o (gu A 13 res)) := by
  refine g_met_v (by decide +kernel) (Nat.le_of_ble_eq_true rfl) (fun Γ K hn hE hRm _ hret => ?_)
  subst hE
  have hlt : ∀ i, i < 7 → i < g_n Γ := fun i q => by rw [hn]; exact q
  refine g_ws (ws' := mw (g_E Γ) m r o (gu A 13 (A 13))) rfl ?_
  refine g_sub (L' := [(0, .ref m), (1, .ref (r 13)), (2, .int x2)]) [0, 1, 2] rfl ?_
  exact wX12_givesFives_at13 K hlt hRm hret (A 13) x2 h

set_option maxHeartbeats 4000000 in
set_option maxRecDepth 100000 in
theorem wX12_turnsOnes_at13_23 {Γ : gT} {m : Nat} {r : Nat → Nat} {o : Nat → Int32} {A : Nat → Nat → Int32} (K : gOK Γ cX12_turnsOnes gU RX12) (hlt : ∀ i, i < 8 → i < g_n Γ) (hRm : g_R Γ = ({ frames := 5, cells := 0, slots := 0, locals := 172 } : Room)) {res : ((Nat → Int32))} (hret : ∀ (pc : Nat) (L : List (Nat × Value)) (w : va_W), decode cX12_turnsOnes pc = .ok (.return_, 1) → (w = mw (g_E Γ) m r o (gu A 13 res)) → gGO Γ 0 0 pc L [] w) : ∀ (n : Nat) (a13 : (Nat → Int32)) (x2 : Int32) (x3 : Int32) (x4 : Int32) (x5 : Int32) (x6 : Int32), pX12_turnsOnes_at13_23 (A 1) (A 15) n a13 x2 x3 x4 x5 x6 = some res → gGO Γ 0 0 23 [(0, .ref m), (1, .ref (r 13)), (2, .int x2), (3, .int x3), (4, .int x4), (5, .int x5), (6, .int x6)] [] (mw (g_E Γ) m r o (gu A 13 a13)) := by
  intro n
  induction n with
  | zero => intro _ _ _ _ _ _ h; cases h
  | succ n ih =>
    intro a13 x2 x3 x4 x5 x6 h
    simp only [pX12_turnsOnes_at13_23] at h
    refine g_iload K dX12_turnsOnes_23 6 rfl ?_
    refine g_aload_n K dX12_turnsOnes_25 rfl 0 rfl ?_
    refine mg_1 K hin_X12 (u_980) dX12_turnsOnes_26 ?_
    refine g_bipush (v := 51) K dX12_turnsOnes_29 (by decide) ?_
    obtain ⟨b_1, h⟩ := gi_none h
    refine g_iald (f := (A 1)) K 1 rfl (ginb_in b_1) dX12_turnsOnes_31 ?_
    obtain ⟨ht9, hf9⟩ := gi_br h; clear h
    refine g_icmp_ge (tgt := 98) K dX12_turnsOnes_32 (by decide) (fun qh => ?_) (fun qh => ?_)
    · have h := ht9 qh; clear ht9 hf9
      obtain rfl := Option.some.inj h
      exact hret _ _ _ dX12_turnsOnes_98 rfl
    · have h := hf9 qh; clear ht9 hf9
      refine g_aload_n K dX12_turnsOnes_35 rfl 0 rfl ?_
      refine mg_15 K hin_X12 (u_994) dX12_turnsOnes_36 ?_
      refine g_iload K dX12_turnsOnes_39 6 rfl ?_
      obtain ⟨b_2, h⟩ := gi_none h
      refine g_zald (f := (A 15)) K 9 rfl (ginb_in b_2) dX12_turnsOnes_41 ?_
      obtain ⟨ht9, hf9⟩ := gi_br h; clear h
      refine g_if_eq (tgt := 92) K dX12_turnsOnes_42 (by decide) (fun qh => ?_) (fun qh => ?_)
      · have h := ht9 qh; clear ht9 hf9
        refine g_iinc (v := (x6 + 1)) (L' := [(6, .int (x6 + 1)), (0, .ref m), (1, .ref (r 13)), (2, .int x2), (3, .int x3), (4, .int x4), (5, .int x5)]) K dX12_turnsOnes_92 6 rfl rfl (hlt _ (by decide)) rfl ?_
        refine g_goto (tgt := 23) K dX12_turnsOnes_95 (by decide) ?_
        refine g_sub (L' := [(0, .ref m), (1, .ref (r 13)), (2, .int x2), (3, .int x3), (4, .int x4), (5, .int x5), (6, .int (x6 + 1))]) [1, 2, 3, 4, 5, 6, 0] rfl ?_
        exact ih a13 x2 x3 x4 x5 (x6 + 1) h
      · have h := hf9 qh; clear ht9 hf9
        refine g_iload K dX12_turnsOnes_45 6 rfl ?_
        refine g_iload_n K dX12_turnsOnes_47 rfl 3 rfl ?_
        obtain ⟨ht9, hf9⟩ := gi_br h; clear h
        refine g_icmp_eq (tgt := 92) K dX12_turnsOnes_48 (by decide) (fun qh => ?_) (fun qh => ?_)
        · have h := ht9 qh; clear ht9 hf9
          refine g_iinc (v := (x6 + 1)) (L' := [(6, .int (x6 + 1)), (0, .ref m), (1, .ref (r 13)), (2, .int x2), (3, .int x3), (4, .int x4), (5, .int x5)]) K dX12_turnsOnes_92 6 rfl rfl (hlt _ (by decide)) rfl ?_
          refine g_goto (tgt := 23) K dX12_turnsOnes_95 (by decide) ?_
          refine g_sub (L' := [(0, .ref m), (1, .ref (r 13)), (2, .int x2), (3, .int x3), (4, .int x4), (5, .int x5), (6, .int (x6 + 1))]) [1, 2, 3, 4, 5, 6, 0] rfl ?_
          exact ih a13 x2 x3 x4 x5 (x6 + 1) h
        · have h := hf9 qh; clear ht9 hf9
          refine g_iload K dX12_turnsOnes_51 5 rfl ?_
          refine g_aload_n K dX12_turnsOnes_53 rfl 0 rfl ?_
          refine mg_1 K hin_X12 (u_980) dX12_turnsOnes_54 ?_
          refine g_iconst (v := 0) K dX12_turnsOnes_57 (by decide) ?_
          obtain ⟨b_3, h⟩ := gi_none h
          refine g_iald (f := (A 1)) K 1 rfl (ginb_in b_3) dX12_turnsOnes_58 ?_
          refine g_iload K dX12_turnsOnes_59 4 rfl ?_
          obtain ⟨c_4, h⟩ := gi_none h
          refine g_irem K dX12_turnsOnes_61 c_4 ?_
          refine g_isub K dX12_turnsOnes_62 ?_
          refine g_iload K dX12_turnsOnes_63 4 rfl ?_
          refine g_iadd K dX12_turnsOnes_65 ?_
          refine g_iload K dX12_turnsOnes_66 4 rfl ?_
          obtain ⟨c_5, h⟩ := gi_none h
          refine g_irem K dX12_turnsOnes_68 c_5 ?_
          obtain ⟨v_6, ev_6, h⟩ := gi_nm h
          refine g_topi ev_6 ?_
          refine g_istore (L' := [(7, .int v_6), (0, .ref m), (1, .ref (r 13)), (2, .int x2), (3, .int x3), (4, .int x4), (5, .int x5), (6, .int x6)]) K dX12_turnsOnes_69 (hlt _ (by decide)) rfl ?_
          refine g_aload_n K dX12_turnsOnes_71 rfl 2 rfl ?_
          refine g_iload K dX12_turnsOnes_72 7 rfl ?_
          refine g_iload K dX12_turnsOnes_74 0 rfl ?_
          refine g_iload_n K dX12_turnsOnes_76 rfl 3 rfl ?_
          obtain ⟨ht9, hf9⟩ := gi_br h; clear h
          refine g_icmp_ge (tgt := 84) K dX12_turnsOnes_77 (by decide) (fun qh => ?_) (fun qh => ?_)
          · have h := ht9 qh; clear ht9 hf9
            refine g_aload_n K dX12_turnsOnes_84 rfl 2 rfl ?_
            refine g_iload K dX12_turnsOnes_85 7 rfl ?_
            obtain ⟨b_7, h⟩ := gi_none h
            refine g_iald (f := a13) K 7 rfl (ginb_in b_7) dX12_turnsOnes_87 ?_
            obtain ⟨b_8, h⟩ := gi_none h
            obtain ⟨f_9, ef_9, h⟩ := gi_nm h
            refine g_iast (f := a13) (ws' := mw (g_E Γ) m r o (gu A 13 f_9)) K 7 rfl (ginb_in b_8) dX12_turnsOnes_88 (by rw [ef_9]; rfl) ?_
            refine g_iinc (v := (x5 + 1)) (L' := [(5, .int (x5 + 1)), (7, .int v_6), (0, .ref m), (1, .ref (r 13)), (2, .int x2), (3, .int x3), (4, .int x4), (6, .int x6)]) K dX12_turnsOnes_89 6 rfl rfl (hlt _ (by decide)) rfl ?_
            refine g_iinc (v := (x6 + 1)) (L' := [(6, .int (x6 + 1)), (5, .int (x5 + 1)), (7, .int v_6), (0, .ref m), (1, .ref (r 13)), (2, .int x2), (3, .int x3), (4, .int x4)]) K dX12_turnsOnes_92 7 rfl rfl (hlt _ (by decide)) rfl ?_
            refine g_goto (tgt := 23) K dX12_turnsOnes_95 (by decide) ?_
            refine g_sub (L' := [(0, .ref m), (1, .ref (r 13)), (2, .int x2), (3, .int x3), (4, .int x4), (5, .int (x5 + 1)), (6, .int (x6 + 1))]) [3, 4, 5, 6, 7, 1, 0] rfl ?_
            exact ih f_9 x2 x3 x4 (x5 + 1) (x6 + 1) h
          · have h := hf9 qh; clear ht9 hf9
            refine g_iconst (v := 1) K dX12_turnsOnes_80 (by decide) ?_
            refine g_goto (tgt := 88) K dX12_turnsOnes_81 (by decide) ?_
            obtain ⟨b_10, h⟩ := gi_none h
            obtain ⟨f_11, ef_11, h⟩ := gi_nm h
            refine g_iast (f := a13) (ws' := mw (g_E Γ) m r o (gu A 13 f_11)) K 7 rfl (ginb_in b_10) dX12_turnsOnes_88 (by rw [ef_11]; rfl) ?_
            refine g_iinc (v := (x5 + 1)) (L' := [(5, .int (x5 + 1)), (7, .int v_6), (0, .ref m), (1, .ref (r 13)), (2, .int x2), (3, .int x3), (4, .int x4), (6, .int x6)]) K dX12_turnsOnes_89 6 rfl rfl (hlt _ (by decide)) rfl ?_
            refine g_iinc (v := (x6 + 1)) (L' := [(6, .int (x6 + 1)), (5, .int (x5 + 1)), (7, .int v_6), (0, .ref m), (1, .ref (r 13)), (2, .int x2), (3, .int x3), (4, .int x4)]) K dX12_turnsOnes_92 7 rfl rfl (hlt _ (by decide)) rfl ?_
            refine g_goto (tgt := 23) K dX12_turnsOnes_95 (by decide) ?_
            refine g_sub (L' := [(0, .ref m), (1, .ref (r 13)), (2, .int x2), (3, .int x3), (4, .int x4), (5, .int (x5 + 1)), (6, .int (x6 + 1))]) [3, 4, 5, 6, 7, 1, 0] rfl ?_
            exact ih f_11 x2 x3 x4 (x5 + 1) (x6 + 1) h

set_option maxHeartbeats 4000000 in
set_option maxRecDepth 100000 in
theorem wX12_turnsOnes_at13 {Γ : gT} {m : Nat} {r : Nat → Nat} {o : Nat → Int32} {A : Nat → Nat → Int32} (K : gOK Γ cX12_turnsOnes gU RX12) (hlt : ∀ i, i < 8 → i < g_n Γ) (hRm : g_R Γ = ({ frames := 5, cells := 0, slots := 0, locals := 172 } : Room)) {res : ((Nat → Int32))} (hret : ∀ (pc : Nat) (L : List (Nat × Value)) (w : va_W), decode cX12_turnsOnes pc = .ok (.return_, 1) → (w = mw (g_E Γ) m r o (gu A 13 res)) → gGO Γ 0 0 pc L [] w) (a13 : (Nat → Int32)) (x2 : Int32) (x3 : Int32) (h : pX12_turnsOnes_at13 (A 1) (A 15) a13 x2 x3 = some res) : gGO Γ 0 0 0 [(0, .ref m), (1, .ref (r 13)), (2, .int x2), (3, .int x3)] [] (mw (g_E Γ) m r o (gu A 13 a13)) := by
    unfold pX12_turnsOnes_at13 at h
    refine g_aload_n K dX12_turnsOnes_0 rfl 0 rfl ?_
    obtain ⟨z_1, hz_1, h⟩ := gi_bd h
    refine g_callVi (As := []) (bytes := cX12_inTeam) (maxL := 3) (ret := (some .int)) K (ctX12_inTeam o (gu A 13 a13) (res := z_1) hz_1) gc_V_RX12_158_X12_inTeam rfl qv_X12_inTeam 0 rfl rfl rfl hRm rfl rfl rfl (by decide) (Nat.le_of_ble_eq_true rfl) (by decide) dX12_turnsOnes_1 (fun v w hw => ?_)
    obtain ⟨hv9, rfl⟩ := hw; have hv9 := hv9.symm; subst hv9
    refine g_iload_n K dX12_turnsOnes_4 rfl 3 rfl ?_
    refine g_iconst (v := (-1)) K dX12_turnsOnes_5 (by decide) ?_
    obtain ⟨ht9, hf9⟩ := gi_br h; clear h
    refine g_icmp_ne (tgt := 13) K dX12_turnsOnes_6 (by decide) (fun qh => ?_) (fun qh => ?_)
    · have h := hf9 qh; clear ht9 hf9
      refine g_iconst (v := 1) K dX12_turnsOnes_13 (by decide) ?_
      refine g_isub K dX12_turnsOnes_14 ?_
      obtain ⟨v_2, ev_2, h⟩ := gi_nm h
      refine g_topi ev_2 ?_
      refine g_istore (L' := [(4, .int v_2), (0, .ref m), (1, .ref (r 13)), (2, .int x2), (3, .int x3)]) K dX12_turnsOnes_15 (hlt _ (by decide)) rfl ?_
      refine g_iconst (v := 0) K dX12_turnsOnes_17 (by decide) ?_
      refine g_istore (L' := [(5, .int 0), (4, .int v_2), (0, .ref m), (1, .ref (r 13)), (2, .int x2), (3, .int x3)]) K dX12_turnsOnes_18 (hlt _ (by decide)) rfl ?_
      refine g_iconst (v := 0) K dX12_turnsOnes_20 (by decide) ?_
      refine g_istore (L' := [(6, .int 0), (5, .int 0), (4, .int v_2), (0, .ref m), (1, .ref (r 13)), (2, .int x2), (3, .int x3)]) K dX12_turnsOnes_21 (hlt _ (by decide)) rfl ?_
      refine g_sub (L' := [(0, .ref m), (1, .ref (r 13)), (2, .int x2), (3, .int x3), (4, .int v_2), (5, .int 0), (6, .int 0)]) [3, 4, 5, 6, 2, 1, 0] rfl ?_
      exact wX12_turnsOnes_at13_23 K hlt hRm hret 1000 a13 x2 x3 v_2 0 0 h
    · have h := ht9 qh; clear ht9 hf9
      refine g_iconst (v := 0) K dX12_turnsOnes_9 (by decide) ?_
      refine g_goto (tgt := 14) K dX12_turnsOnes_10 (by decide) ?_
      refine g_isub K dX12_turnsOnes_14 ?_
      obtain ⟨v_3, ev_3, h⟩ := gi_nm h
      refine g_topi ev_3 ?_
      refine g_istore (L' := [(4, .int v_3), (0, .ref m), (1, .ref (r 13)), (2, .int x2), (3, .int x3)]) K dX12_turnsOnes_15 (hlt _ (by decide)) rfl ?_
      refine g_iconst (v := 0) K dX12_turnsOnes_17 (by decide) ?_
      refine g_istore (L' := [(5, .int 0), (4, .int v_3), (0, .ref m), (1, .ref (r 13)), (2, .int x2), (3, .int x3)]) K dX12_turnsOnes_18 (hlt _ (by decide)) rfl ?_
      refine g_iconst (v := 0) K dX12_turnsOnes_20 (by decide) ?_
      refine g_istore (L' := [(6, .int 0), (5, .int 0), (4, .int v_3), (0, .ref m), (1, .ref (r 13)), (2, .int x2), (3, .int x3)]) K dX12_turnsOnes_21 (hlt _ (by decide)) rfl ?_
      refine g_sub (L' := [(0, .ref m), (1, .ref (r 13)), (2, .int x2), (3, .int x3), (4, .int v_3), (5, .int 0), (6, .int 0)]) [3, 4, 5, 6, 2, 1, 0] rfl ?_
      exact wX12_turnsOnes_at13_23 K hlt hRm hret 1000 a13 x2 x3 v_3 0 0 h

set_option maxRecDepth 100000 in
theorem ctX12_turnsOnes_at13 {E : gE} {m : Nat} {r : Nat → Nat} (o : Nat → Int32) (A : Nat → Nat → Int32) (x2 : Int32) (x3 : Int32) {res : ((Nat → Int32))} (h : pX12_turnsOnes_at13 (A 1) (A 15) (A 13) x2 x3 = some res) : gMv yX12_turnsOnes (.code yX12_turnsOnes cX12_turnsOnes 8 none :: gU) ({ frames := 5, cells := 0, slots := 0, locals := 172 } : Room) 0 0 E [.ref m, .ref (r 13), .int x2, .int x3] (mw E m r o A) (fun w => w = mw E m r o (gu A 13 res)) := by
  refine g_met_v (by decide +kernel) (Nat.le_of_ble_eq_true rfl) (fun Γ K hn hE hRm _ hret => ?_)
  subst hE
  have hlt : ∀ i, i < 8 → i < g_n Γ := fun i q => by rw [hn]; exact q
  refine g_ws (ws' := mw (g_E Γ) m r o (gu A 13 (A 13))) rfl ?_
  refine g_sub (L' := [(0, .ref m), (1, .ref (r 13)), (2, .int x2), (3, .int x3)]) [0, 1, 2, 3] rfl ?_
  exact wX12_turnsOnes_at13 K hlt hRm hret (A 13) x2 x3 h

set_option maxHeartbeats 4000000 in
set_option maxRecDepth 100000 in
theorem wX12_givesOnes_at13_104 {Γ : gT} {m : Nat} {r : Nat → Nat} {o : Nat → Int32} {A : Nat → Nat → Int32} (K : gOK Γ cX12_givesOnes gU RX12) (hlt : ∀ i, i < 6 → i < g_n Γ) (hRm : g_R Γ = ({ frames := 4, cells := 0, slots := 0, locals := 150 } : Room)) {res : ((Nat → Int32))} (hret : ∀ (pc : Nat) (L : List (Nat × Value)) (w : va_W), decode cX12_givesOnes pc = .ok (.return_, 1) → (w = mw (g_E Γ) m r o (gu A 13 res)) → gGO Γ 0 0 pc L [] w) {k2 : (Nat → Int32) → Int32 → Int32 → Option (((Nat → Int32)))} (hk2 : ∀ (a13 : (Nat → Int32)) (x2 : Int32) (x3 : Int32), k2 a13 x2 x3 = some res → gGO Γ 0 0 2 [(0, .ref m), (1, .ref (r 13)), (2, .int x2), (3, .int x3)] [] (mw (g_E Γ) m r o (gu A 13 a13))) (a13 : (Nat → Int32)) (x2 : Int32) (x3 : Int32) (x4 : Int32) (h : pX12_givesOnes_at13_104 k2 (A 1) (A 12) (A 15) a13 x2 x3 x4 = some res) : gGO Γ 0 0 104 [(0, .ref m), (1, .ref (r 13)), (2, .int x2), (3, .int x3), (4, .int x4)] [] (mw (g_E Γ) m r o (gu A 13 a13)) := by
    unfold pX12_givesOnes_at13_104 at h
    refine g_aload_n K dX12_givesOnes_104 rfl 1 rfl ?_
    refine g_iload_n K dX12_givesOnes_105 rfl 3 rfl ?_
    refine g_iload K dX12_givesOnes_106 4 rfl ?_
    refine g_iload_n K dX12_givesOnes_108 rfl 2 rfl ?_
    obtain ⟨ht9, hf9⟩ := gi_br h; clear h
    refine g_icmp_ge (tgt := 116) K dX12_givesOnes_109 (by decide) (fun qh => ?_) (fun qh => ?_)
    · have h := ht9 qh; clear ht9 hf9
      refine g_aload_n K dX12_givesOnes_116 rfl 1 rfl ?_
      refine g_iload_n K dX12_givesOnes_117 rfl 3 rfl ?_
      obtain ⟨b_1, h⟩ := gi_none h
      refine g_iald (f := a13) K 7 rfl (ginb_in b_1) dX12_givesOnes_118 ?_
      obtain ⟨b_2, h⟩ := gi_none h
      obtain ⟨f_3, ef_3, h⟩ := gi_nm h
      refine g_iast (f := a13) (ws' := mw (g_E Γ) m r o (gu A 13 f_3)) K 7 rfl (ginb_in b_2) dX12_givesOnes_119 (by rw [ef_3]; rfl) ?_
      refine g_iinc (v := (x3 + 1)) (L' := [(3, .int (x3 + 1)), (0, .ref m), (1, .ref (r 13)), (2, .int x2), (4, .int x4)]) K dX12_givesOnes_120 3 rfl rfl (hlt _ (by decide)) rfl ?_
      refine g_goto (tgt := 2) K dX12_givesOnes_123 (by decide) ?_
      refine g_sub (L' := [(0, .ref m), (1, .ref (r 13)), (2, .int x2), (3, .int (x3 + 1))]) [1, 2, 3, 0] rfl ?_
      exact hk2 f_3 x2 (x3 + 1) h
    · have h := hf9 qh; clear ht9 hf9
      refine g_iconst (v := 1) K dX12_givesOnes_112 (by decide) ?_
      refine g_goto (tgt := 119) K dX12_givesOnes_113 (by decide) ?_
      obtain ⟨b_4, h⟩ := gi_none h
      obtain ⟨f_5, ef_5, h⟩ := gi_nm h
      refine g_iast (f := a13) (ws' := mw (g_E Γ) m r o (gu A 13 f_5)) K 7 rfl (ginb_in b_4) dX12_givesOnes_119 (by rw [ef_5]; rfl) ?_
      refine g_iinc (v := (x3 + 1)) (L' := [(3, .int (x3 + 1)), (0, .ref m), (1, .ref (r 13)), (2, .int x2), (4, .int x4)]) K dX12_givesOnes_120 3 rfl rfl (hlt _ (by decide)) rfl ?_
      refine g_goto (tgt := 2) K dX12_givesOnes_123 (by decide) ?_
      refine g_sub (L' := [(0, .ref m), (1, .ref (r 13)), (2, .int x2), (3, .int (x3 + 1))]) [1, 2, 3, 0] rfl ?_
      exact hk2 f_5 x2 (x3 + 1) h

set_option maxHeartbeats 4000000 in
set_option maxRecDepth 100000 in
theorem wX12_givesOnes_at13_28 {Γ : gT} {m : Nat} {r : Nat → Nat} {o : Nat → Int32} {A : Nat → Nat → Int32} (K : gOK Γ cX12_givesOnes gU RX12) (hlt : ∀ i, i < 6 → i < g_n Γ) (hRm : g_R Γ = ({ frames := 4, cells := 0, slots := 0, locals := 150 } : Room)) {res : ((Nat → Int32))} (hret : ∀ (pc : Nat) (L : List (Nat × Value)) (w : va_W), decode cX12_givesOnes pc = .ok (.return_, 1) → (w = mw (g_E Γ) m r o (gu A 13 res)) → gGO Γ 0 0 pc L [] w) {k2 : (Nat → Int32) → Int32 → Int32 → Option (((Nat → Int32)))} (hk2 : ∀ (a13 : (Nat → Int32)) (x2 : Int32) (x3 : Int32), k2 a13 x2 x3 = some res → gGO Γ 0 0 2 [(0, .ref m), (1, .ref (r 13)), (2, .int x2), (3, .int x3)] [] (mw (g_E Γ) m r o (gu A 13 a13))) : ∀ (n : Nat) (a13 : (Nat → Int32)) (x2 : Int32) (x3 : Int32) (x4 : Int32) (x5 : Int32), pX12_givesOnes_at13_28 k2 (A 1) (A 12) (A 15) n a13 x2 x3 x4 x5 = some res → gGO Γ 0 0 28 [(0, .ref m), (1, .ref (r 13)), (2, .int x2), (3, .int x3), (4, .int x4), (5, .int x5)] [] (mw (g_E Γ) m r o (gu A 13 a13)) := by
  intro n
  induction n with
  | zero => intro _ _ _ _ _ h; cases h
  | succ n ih =>
    intro a13 x2 x3 x4 x5 h
    simp only [pX12_givesOnes_at13_28] at h
    refine g_iload K dX12_givesOnes_28 5 rfl ?_
    refine g_aload_n K dX12_givesOnes_30 rfl 0 rfl ?_
    refine mg_1 K hin_X12 (u_980) dX12_givesOnes_31 ?_
    refine g_bipush (v := 51) K dX12_givesOnes_34 (by decide) ?_
    obtain ⟨b_1, h⟩ := gi_none h
    refine g_iald (f := (A 1)) K 1 rfl (ginb_in b_1) dX12_givesOnes_36 ?_
    obtain ⟨ht9, hf9⟩ := gi_br h; clear h
    refine g_icmp_ge (tgt := 104) K dX12_givesOnes_37 (by decide) (fun qh => ?_) (fun qh => ?_)
    · have h := ht9 qh; clear ht9 hf9
      refine g_sub (L' := [(0, .ref m), (1, .ref (r 13)), (2, .int x2), (3, .int x3), (4, .int x4)]) [0, 1, 2, 3, 4] rfl ?_
      exact wX12_givesOnes_at13_104 K hlt hRm hret hk2 a13 x2 x3 x4 h
    · have h := hf9 qh; clear ht9 hf9
      refine g_iload K dX12_givesOnes_40 4 rfl ?_
      refine g_aload_n K dX12_givesOnes_42 rfl 0 rfl ?_
      refine mg_15 K hin_X12 (u_994) dX12_givesOnes_43 ?_
      refine g_iload K dX12_givesOnes_46 5 rfl ?_
      obtain ⟨b_2, h⟩ := gi_none h
      refine g_zald (f := (A 15)) K 9 rfl (ginb_in b_2) dX12_givesOnes_48 ?_
      obtain ⟨ht9, hf9⟩ := gi_br h; clear h
      refine g_if_eq (tgt := 94) K dX12_givesOnes_49 (by decide) (fun qh => ?_) (fun qh => ?_)
      · have h := ht9 qh; clear ht9 hf9
        refine g_iconst (v := 0) K dX12_givesOnes_94 (by decide) ?_
        refine g_iadd K dX12_givesOnes_95 ?_
        obtain ⟨v_3, ev_3, h⟩ := gi_nm h
        refine g_topi ev_3 ?_
        refine g_istore (L' := [(4, .int v_3), (0, .ref m), (1, .ref (r 13)), (2, .int x2), (3, .int x3), (5, .int x5)]) K dX12_givesOnes_96 (hlt _ (by decide)) rfl ?_
        refine g_iinc (v := (x5 + 1)) (L' := [(5, .int (x5 + 1)), (4, .int v_3), (0, .ref m), (1, .ref (r 13)), (2, .int x2), (3, .int x3)]) K dX12_givesOnes_98 5 rfl rfl (hlt _ (by decide)) rfl ?_
        refine g_goto (tgt := 28) K dX12_givesOnes_101 (by decide) ?_
        refine g_sub (L' := [(0, .ref m), (1, .ref (r 13)), (2, .int x2), (3, .int x3), (4, .int v_3), (5, .int (x5 + 1))]) [2, 3, 4, 5, 1, 0] rfl ?_
        exact ih a13 x2 x3 v_3 (x5 + 1) h
      · have h := hf9 qh; clear ht9 hf9
        refine g_aload_n K dX12_givesOnes_52 rfl 0 rfl ?_
        refine mg_12 K hin_X12 (u_991) dX12_givesOnes_53 ?_
        refine g_iload K dX12_givesOnes_56 5 rfl ?_
        obtain ⟨b_4, h⟩ := gi_none h
        refine g_iald (f := (A 12)) K 6 rfl (ginb_in b_4) dX12_givesOnes_58 ?_
        refine g_aload_n K dX12_givesOnes_59 rfl 0 rfl ?_
        refine mg_12 K hin_X12 (u_991) dX12_givesOnes_60 ?_
        refine g_iload_n K dX12_givesOnes_63 rfl 3 rfl ?_
        obtain ⟨b_5, h⟩ := gi_none h
        refine g_iald (f := (A 12)) K 6 rfl (ginb_in b_5) dX12_givesOnes_64 ?_
        obtain ⟨ht9, hf9⟩ := gi_br h; clear h
        refine g_icmp_lt (tgt := 90) K dX12_givesOnes_65 (by decide) (fun qh => ?_) (fun qh => ?_)
        · have h := ht9 qh; clear ht9 hf9
          refine g_iconst (v := 1) K dX12_givesOnes_90 (by decide) ?_
          refine g_goto (tgt := 95) K dX12_givesOnes_91 (by decide) ?_
          refine g_iadd K dX12_givesOnes_95 ?_
          obtain ⟨v_6, ev_6, h⟩ := gi_nm h
          refine g_topi ev_6 ?_
          refine g_istore (L' := [(4, .int v_6), (0, .ref m), (1, .ref (r 13)), (2, .int x2), (3, .int x3), (5, .int x5)]) K dX12_givesOnes_96 (hlt _ (by decide)) rfl ?_
          refine g_iinc (v := (x5 + 1)) (L' := [(5, .int (x5 + 1)), (4, .int v_6), (0, .ref m), (1, .ref (r 13)), (2, .int x2), (3, .int x3)]) K dX12_givesOnes_98 5 rfl rfl (hlt _ (by decide)) rfl ?_
          refine g_goto (tgt := 28) K dX12_givesOnes_101 (by decide) ?_
          refine g_sub (L' := [(0, .ref m), (1, .ref (r 13)), (2, .int x2), (3, .int x3), (4, .int v_6), (5, .int (x5 + 1))]) [2, 3, 4, 5, 1, 0] rfl ?_
          exact ih a13 x2 x3 v_6 (x5 + 1) h
        · have h := hf9 qh; clear ht9 hf9
          refine g_aload_n K dX12_givesOnes_68 rfl 0 rfl ?_
          refine mg_12 K hin_X12 (u_991) dX12_givesOnes_69 ?_
          refine g_iload K dX12_givesOnes_72 5 rfl ?_
          obtain ⟨b_7, h⟩ := gi_none h
          refine g_iald (f := (A 12)) K 6 rfl (ginb_in b_7) dX12_givesOnes_74 ?_
          refine g_aload_n K dX12_givesOnes_75 rfl 0 rfl ?_
          refine mg_12 K hin_X12 (u_991) dX12_givesOnes_76 ?_
          refine g_iload_n K dX12_givesOnes_79 rfl 3 rfl ?_
          obtain ⟨b_8, h⟩ := gi_none h
          refine g_iald (f := (A 12)) K 6 rfl (ginb_in b_8) dX12_givesOnes_80 ?_
          obtain ⟨ht9, hf9⟩ := gi_br h; clear h
          refine g_icmp_ne (tgt := 94) K dX12_givesOnes_81 (by decide) (fun qh => ?_) (fun qh => ?_)
          · have h := hf9 qh; clear ht9 hf9
            refine g_iconst (v := 0) K dX12_givesOnes_94 (by decide) ?_
            refine g_iadd K dX12_givesOnes_95 ?_
            obtain ⟨v_9, ev_9, h⟩ := gi_nm h
            refine g_topi ev_9 ?_
            refine g_istore (L' := [(4, .int v_9), (0, .ref m), (1, .ref (r 13)), (2, .int x2), (3, .int x3), (5, .int x5)]) K dX12_givesOnes_96 (hlt _ (by decide)) rfl ?_
            refine g_iinc (v := (x5 + 1)) (L' := [(5, .int (x5 + 1)), (4, .int v_9), (0, .ref m), (1, .ref (r 13)), (2, .int x2), (3, .int x3)]) K dX12_givesOnes_98 5 rfl rfl (hlt _ (by decide)) rfl ?_
            refine g_goto (tgt := 28) K dX12_givesOnes_101 (by decide) ?_
            refine g_sub (L' := [(0, .ref m), (1, .ref (r 13)), (2, .int x2), (3, .int x3), (4, .int v_9), (5, .int (x5 + 1))]) [2, 3, 4, 5, 1, 0] rfl ?_
            exact ih a13 x2 x3 v_9 (x5 + 1) h
          · have h := ht9 qh; clear ht9 hf9
            refine g_iload K dX12_givesOnes_84 5 rfl ?_
            refine g_iload_n K dX12_givesOnes_86 rfl 3 rfl ?_
            obtain ⟨ht9, hf9⟩ := gi_br h; clear h
            refine g_icmp_le (tgt := 94) K dX12_givesOnes_87 (by decide) (fun qh => ?_) (fun qh => ?_)
            · have h := ht9 qh; clear ht9 hf9
              refine g_iconst (v := 0) K dX12_givesOnes_94 (by decide) ?_
              refine g_iadd K dX12_givesOnes_95 ?_
              obtain ⟨v_10, ev_10, h⟩ := gi_nm h
              refine g_topi ev_10 ?_
              refine g_istore (L' := [(4, .int v_10), (0, .ref m), (1, .ref (r 13)), (2, .int x2), (3, .int x3), (5, .int x5)]) K dX12_givesOnes_96 (hlt _ (by decide)) rfl ?_
              refine g_iinc (v := (x5 + 1)) (L' := [(5, .int (x5 + 1)), (4, .int v_10), (0, .ref m), (1, .ref (r 13)), (2, .int x2), (3, .int x3)]) K dX12_givesOnes_98 5 rfl rfl (hlt _ (by decide)) rfl ?_
              refine g_goto (tgt := 28) K dX12_givesOnes_101 (by decide) ?_
              refine g_sub (L' := [(0, .ref m), (1, .ref (r 13)), (2, .int x2), (3, .int x3), (4, .int v_10), (5, .int (x5 + 1))]) [2, 3, 4, 5, 1, 0] rfl ?_
              exact ih a13 x2 x3 v_10 (x5 + 1) h
            · have h := hf9 qh; clear ht9 hf9
              refine g_iconst (v := 1) K dX12_givesOnes_90 (by decide) ?_
              refine g_goto (tgt := 95) K dX12_givesOnes_91 (by decide) ?_
              refine g_iadd K dX12_givesOnes_95 ?_
              obtain ⟨v_11, ev_11, h⟩ := gi_nm h
              refine g_topi ev_11 ?_
              refine g_istore (L' := [(4, .int v_11), (0, .ref m), (1, .ref (r 13)), (2, .int x2), (3, .int x3), (5, .int x5)]) K dX12_givesOnes_96 (hlt _ (by decide)) rfl ?_
              refine g_iinc (v := (x5 + 1)) (L' := [(5, .int (x5 + 1)), (4, .int v_11), (0, .ref m), (1, .ref (r 13)), (2, .int x2), (3, .int x3)]) K dX12_givesOnes_98 5 rfl rfl (hlt _ (by decide)) rfl ?_
              refine g_goto (tgt := 28) K dX12_givesOnes_101 (by decide) ?_
              refine g_sub (L' := [(0, .ref m), (1, .ref (r 13)), (2, .int x2), (3, .int x3), (4, .int v_11), (5, .int (x5 + 1))]) [2, 3, 4, 5, 1, 0] rfl ?_
              exact ih a13 x2 x3 v_11 (x5 + 1) h

set_option maxHeartbeats 4000000 in
set_option maxRecDepth 100000 in
theorem wX12_givesOnes_at13_2 {Γ : gT} {m : Nat} {r : Nat → Nat} {o : Nat → Int32} {A : Nat → Nat → Int32} (K : gOK Γ cX12_givesOnes gU RX12) (hlt : ∀ i, i < 6 → i < g_n Γ) (hRm : g_R Γ = ({ frames := 4, cells := 0, slots := 0, locals := 150 } : Room)) {res : ((Nat → Int32))} (hret : ∀ (pc : Nat) (L : List (Nat × Value)) (w : va_W), decode cX12_givesOnes pc = .ok (.return_, 1) → (w = mw (g_E Γ) m r o (gu A 13 res)) → gGO Γ 0 0 pc L [] w) : ∀ (n : Nat) (a13 : (Nat → Int32)) (x2 : Int32) (x3 : Int32), pX12_givesOnes_at13_2 (A 1) (A 12) (A 15) n a13 x2 x3 = some res → gGO Γ 0 0 2 [(0, .ref m), (1, .ref (r 13)), (2, .int x2), (3, .int x3)] [] (mw (g_E Γ) m r o (gu A 13 a13)) := by
  intro n
  induction n with
  | zero => intro _ _ _ h; cases h
  | succ n ih =>
    intro a13 x2 x3 h
    simp only [pX12_givesOnes_at13_2] at h
    refine g_iload_n K dX12_givesOnes_2 rfl 3 rfl ?_
    refine g_aload_n K dX12_givesOnes_3 rfl 0 rfl ?_
    refine mg_1 K hin_X12 (u_980) dX12_givesOnes_4 ?_
    refine g_bipush (v := 51) K dX12_givesOnes_7 (by decide) ?_
    obtain ⟨b_1, h⟩ := gi_none h
    refine g_iald (f := (A 1)) K 1 rfl (ginb_in b_1) dX12_givesOnes_9 ?_
    obtain ⟨ht9, hf9⟩ := gi_br h; clear h
    refine g_icmp_ge (tgt := 126) K dX12_givesOnes_10 (by decide) (fun qh => ?_) (fun qh => ?_)
    · have h := ht9 qh; clear ht9 hf9
      obtain rfl := Option.some.inj h
      exact hret _ _ _ dX12_givesOnes_126 rfl
    · have h := hf9 qh; clear ht9 hf9
      refine g_aload_n K dX12_givesOnes_13 rfl 0 rfl ?_
      refine mg_15 K hin_X12 (u_994) dX12_givesOnes_14 ?_
      refine g_iload_n K dX12_givesOnes_17 rfl 3 rfl ?_
      obtain ⟨b_2, h⟩ := gi_none h
      refine g_zald (f := (A 15)) K 9 rfl (ginb_in b_2) dX12_givesOnes_18 ?_
      obtain ⟨ht9, hf9⟩ := gi_br h; clear h
      refine g_if_eq (tgt := 120) K dX12_givesOnes_19 (by decide) (fun qh => ?_) (fun qh => ?_)
      · have h := ht9 qh; clear ht9 hf9
        refine g_iinc (v := (x3 + 1)) (L' := [(3, .int (x3 + 1)), (0, .ref m), (1, .ref (r 13)), (2, .int x2)]) K dX12_givesOnes_120 3 rfl rfl (hlt _ (by decide)) rfl ?_
        refine g_goto (tgt := 2) K dX12_givesOnes_123 (by decide) ?_
        refine g_sub (L' := [(0, .ref m), (1, .ref (r 13)), (2, .int x2), (3, .int (x3 + 1))]) [1, 2, 3, 0] rfl ?_
        exact ih a13 x2 (x3 + 1) h
      · have h := hf9 qh; clear ht9 hf9
        refine g_iconst (v := 0) K dX12_givesOnes_22 (by decide) ?_
        refine g_istore (L' := [(4, .int 0), (0, .ref m), (1, .ref (r 13)), (2, .int x2), (3, .int x3)]) K dX12_givesOnes_23 (hlt _ (by decide)) rfl ?_
        refine g_iconst (v := 0) K dX12_givesOnes_25 (by decide) ?_
        refine g_istore (L' := [(5, .int 0), (4, .int 0), (0, .ref m), (1, .ref (r 13)), (2, .int x2), (3, .int x3)]) K dX12_givesOnes_26 (hlt _ (by decide)) rfl ?_
        refine g_sub (L' := [(0, .ref m), (1, .ref (r 13)), (2, .int x2), (3, .int x3), (4, .int 0), (5, .int 0)]) [2, 3, 4, 5, 1, 0] rfl ?_
        exact wX12_givesOnes_at13_28 K hlt hRm hret ih 1000 a13 x2 x3 0 0 h

set_option maxHeartbeats 4000000 in
set_option maxRecDepth 100000 in
theorem wX12_givesOnes_at13 {Γ : gT} {m : Nat} {r : Nat → Nat} {o : Nat → Int32} {A : Nat → Nat → Int32} (K : gOK Γ cX12_givesOnes gU RX12) (hlt : ∀ i, i < 6 → i < g_n Γ) (hRm : g_R Γ = ({ frames := 4, cells := 0, slots := 0, locals := 150 } : Room)) {res : ((Nat → Int32))} (hret : ∀ (pc : Nat) (L : List (Nat × Value)) (w : va_W), decode cX12_givesOnes pc = .ok (.return_, 1) → (w = mw (g_E Γ) m r o (gu A 13 res)) → gGO Γ 0 0 pc L [] w) (a13 : (Nat → Int32)) (x2 : Int32) (h : pX12_givesOnes_at13 (A 1) (A 12) (A 15) a13 x2 = some res) : gGO Γ 0 0 0 [(0, .ref m), (1, .ref (r 13)), (2, .int x2)] [] (mw (g_E Γ) m r o (gu A 13 a13)) := by
    unfold pX12_givesOnes_at13 at h
    refine g_iconst (v := 0) K dX12_givesOnes_0 (by decide) ?_
    refine g_istore_n (L' := [(3, .int 0), (0, .ref m), (1, .ref (r 13)), (2, .int x2)]) K dX12_givesOnes_1 rfl (hlt _ (by decide)) rfl ?_
    refine g_sub (L' := [(0, .ref m), (1, .ref (r 13)), (2, .int x2), (3, .int 0)]) [1, 2, 3, 0] rfl ?_
    exact wX12_givesOnes_at13_2 K hlt hRm hret 1000 a13 x2 0 h

set_option maxRecDepth 100000 in
theorem ctX12_givesOnes_at13 {E : gE} {m : Nat} {r : Nat → Nat} (o : Nat → Int32) (A : Nat → Nat → Int32) (x2 : Int32) {res : ((Nat → Int32))} (h : pX12_givesOnes_at13 (A 1) (A 12) (A 15) (A 13) x2 = some res) : gMv yX12_givesOnes (.code yX12_givesOnes cX12_givesOnes 6 none :: gU) ({ frames := 4, cells := 0, slots := 0, locals := 150 } : Room) 0 0 E [.ref m, .ref (r 13), .int x2] (mw E m r o A) (fun w => w = mw E m r o (gu A 13 res)) := by
  refine g_met_v (by decide +kernel) (Nat.le_of_ble_eq_true rfl) (fun Γ K hn hE hRm _ hret => ?_)
  subst hE
  have hlt : ∀ i, i < 6 → i < g_n Γ := fun i q => by rw [hn]; exact q
  refine g_ws (ws' := mw (g_E Γ) m r o (gu A 13 (A 13))) rfl ?_
  refine g_sub (L' := [(0, .ref m), (1, .ref (r 13)), (2, .int x2)]) [0, 1, 2] rfl ?_
  exact wX12_givesOnes_at13 K hlt hRm hret (A 13) x2 h

set_option maxHeartbeats 4000000 in
set_option maxRecDepth 100000 in
theorem wX12_onesBy_78 {Γ : gT} {m : Nat} {r : Nat → Nat} {o : Nat → Int32} {A : Nat → Nat → Int32} (K : gOK Γ cX12_onesBy gU RX12) (hlt : ∀ i, i < 4 → i < g_n Γ) (hRm : g_R Γ = ({ frames := 6, cells := 0, slots := 0, locals := 199 } : Room)) {res : ((Nat → Int32))} (hret : ∀ (pc : Nat) (L : List (Nat × Value)) (w : va_W), decode cX12_onesBy pc = .ok (.return_, 1) → (w = mw (g_E Γ) m r o (gu A 13 res)) → gGO Γ 0 0 pc L [] w) (a13 : (Nat → Int32)) (x1 : Int32) (x2 : Int32) (h : pX12_onesBy_78 (A 1) (A 12) (A 15) a13 x1 x2 = some res) : gGO Γ 0 0 78 [(0, .ref m), (1, .int x1), (2, .int x2)] [] (mw (g_E Γ) m r o (gu A 13 a13)) := by
    unfold pX12_onesBy_78 at h
    refine g_aload_n K dX12_onesBy_78 rfl 0 rfl ?_
    refine mg_1 K hin_X12 (u_980) dX12_onesBy_79 ?_
    refine g_bipush (v := 60) K dX12_onesBy_82 (by decide) ?_
    refine g_iload_n K dX12_onesBy_84 rfl 1 rfl ?_
    refine g_iadd K dX12_onesBy_85 ?_
    obtain ⟨b_1, h⟩ := gi_none h
    refine g_iald (f := (A 1)) K 1 rfl (ginb_in b_1) dX12_onesBy_86 ?_
    refine g_iconst (v := 2) K dX12_onesBy_87 (by decide) ?_
    obtain ⟨ht9, hf9⟩ := gi_br h; clear h
    refine g_icmp_eq (tgt := 104) K dX12_onesBy_88 (by decide) (fun qh => ?_) (fun qh => ?_)
    · have h := ht9 qh; clear ht9 hf9
      refine g_aload_n K dX12_onesBy_104 rfl 0 rfl ?_
      refine g_aload_n K dX12_onesBy_105 rfl 0 rfl ?_
      refine mg_13 K hin_X12 (u_992) dX12_onesBy_106 ?_
      refine g_iload_n K dX12_onesBy_109 rfl 2 rfl ?_
      refine g_iconst (v := (-1)) K dX12_onesBy_110 (by decide) ?_
      obtain ⟨z_2, hz_2, h⟩ := gi_bd h
      refine g_callVv (As := [.ref (r 13), .int x2, .int (-1)]) (bytes := cX12_turnsOnes) (maxL := 8) (ret := none) K (ctX12_turnsOnes_at13 o (gu A 13 a13) x2 (-1) (res := z_2) hz_2) gc_V_RX12_161_X12_turnsOnes rfl qv_X12_turnsOnes 0 rfl rfl rfl hRm rfl rfl rfl (by decide) (Nat.le_of_ble_eq_true rfl) (by decide) dX12_onesBy_111 (fun w hw => ?_)
      subst hw
      refine g_ws (ws' := mw (g_E Γ) m r o (gu A 13 z_2)) rfl ?_
      refine g_goto (tgt := 126) K dX12_onesBy_114 (by decide) ?_
      obtain rfl := Option.some.inj h
      exact hret _ _ _ dX12_onesBy_126 rfl
    · have h := hf9 qh; clear ht9 hf9
      refine g_aload_n K dX12_onesBy_91 rfl 0 rfl ?_
      refine mg_1 K hin_X12 (u_980) dX12_onesBy_92 ?_
      refine g_bipush (v := 60) K dX12_onesBy_95 (by decide) ?_
      refine g_iload_n K dX12_onesBy_97 rfl 1 rfl ?_
      refine g_iadd K dX12_onesBy_98 ?_
      obtain ⟨b_3, h⟩ := gi_none h
      refine g_iald (f := (A 1)) K 1 rfl (ginb_in b_3) dX12_onesBy_99 ?_
      refine g_iconst (v := 5) K dX12_onesBy_100 (by decide) ?_
      obtain ⟨ht9, hf9⟩ := gi_br h; clear h
      refine g_icmp_ne (tgt := 117) K dX12_onesBy_101 (by decide) (fun qh => ?_) (fun qh => ?_)
      · have h := hf9 qh; clear ht9 hf9
        refine g_aload_n K dX12_onesBy_117 rfl 0 rfl ?_
        refine g_aload_n K dX12_onesBy_118 rfl 0 rfl ?_
        refine mg_13 K hin_X12 (u_992) dX12_onesBy_119 ?_
        refine g_iload_n K dX12_onesBy_122 rfl 2 rfl ?_
        obtain ⟨z_4, hz_4, h⟩ := gi_bd h
        refine g_callVv (As := [.ref (r 13), .int x2]) (bytes := cX12_givesOnes) (maxL := 6) (ret := none) K (ctX12_givesOnes_at13 o (gu A 13 a13) x2 (res := z_4) hz_4) gc_V_RX12_165_X12_givesOnes rfl qv_X12_givesOnes 0 rfl rfl rfl hRm rfl rfl rfl (by decide) (Nat.le_of_ble_eq_true rfl) (by decide) dX12_onesBy_123 (fun w hw => ?_)
        subst hw
        refine g_ws (ws' := mw (g_E Γ) m r o (gu A 13 z_4)) rfl ?_
        obtain rfl := Option.some.inj h
        exact hret _ _ _ dX12_onesBy_126 rfl
      · have h := ht9 qh; clear ht9 hf9
        refine g_aload_n K dX12_onesBy_104 rfl 0 rfl ?_
        refine g_aload_n K dX12_onesBy_105 rfl 0 rfl ?_
        refine mg_13 K hin_X12 (u_992) dX12_onesBy_106 ?_
        refine g_iload_n K dX12_onesBy_109 rfl 2 rfl ?_
        refine g_iconst (v := (-1)) K dX12_onesBy_110 (by decide) ?_
        obtain ⟨z_5, hz_5, h⟩ := gi_bd h
        refine g_callVv (As := [.ref (r 13), .int x2, .int (-1)]) (bytes := cX12_turnsOnes) (maxL := 8) (ret := none) K (ctX12_turnsOnes_at13 o (gu A 13 a13) x2 (-1) (res := z_5) hz_5) gc_V_RX12_161_X12_turnsOnes rfl qv_X12_turnsOnes 0 rfl rfl rfl hRm rfl rfl rfl (by decide) (Nat.le_of_ble_eq_true rfl) (by decide) dX12_onesBy_111 (fun w hw => ?_)
        subst hw
        refine g_ws (ws' := mw (g_E Γ) m r o (gu A 13 z_5)) rfl ?_
        refine g_goto (tgt := 126) K dX12_onesBy_114 (by decide) ?_
        obtain rfl := Option.some.inj h
        exact hret _ _ _ dX12_onesBy_126 rfl

set_option maxHeartbeats 4000000 in
set_option maxRecDepth 100000 in
theorem wX12_onesBy {Γ : gT} {m : Nat} {r : Nat → Nat} {o : Nat → Int32} {A : Nat → Nat → Int32} (K : gOK Γ cX12_onesBy gU RX12) (hlt : ∀ i, i < 4 → i < g_n Γ) (hRm : g_R Γ = ({ frames := 6, cells := 0, slots := 0, locals := 199 } : Room)) {res : ((Nat → Int32))} (hret : ∀ (pc : Nat) (L : List (Nat × Value)) (w : va_W), decode cX12_onesBy pc = .ok (.return_, 1) → (w = mw (g_E Γ) m r o (gu A 13 res)) → gGO Γ 0 0 pc L [] w) (a13 : (Nat → Int32)) (x1 : Int32) (x2 : Int32) (h : pX12_onesBy (A 1) (A 12) (A 15) a13 x1 x2 = some res) : gGO Γ 0 0 0 [(0, .ref m), (1, .int x1), (2, .int x2)] [] (mw (g_E Γ) m r o (gu A 13 a13)) := by
    unfold pX12_onesBy at h
    refine g_aload_n K dX12_onesBy_0 rfl 0 rfl ?_
    refine mg_1 K hin_X12 (u_980) dX12_onesBy_1 ?_
    refine g_bipush (v := 64) K dX12_onesBy_4 (by decide) ?_
    refine g_iload_n K dX12_onesBy_6 rfl 1 rfl ?_
    refine g_iadd K dX12_onesBy_7 ?_
    obtain ⟨b_1, h⟩ := gi_none h
    refine g_iald (f := (A 1)) K 1 rfl (ginb_in b_1) dX12_onesBy_8 ?_
    obtain ⟨v_2, ev_2, h⟩ := gi_nm h
    refine g_topi ev_2 ?_
    refine g_istore_n (L' := [(3, .int v_2), (0, .ref m), (1, .int x1), (2, .int x2)]) K dX12_onesBy_9 rfl (hlt _ (by decide)) rfl ?_
    refine g_iload_n K dX12_onesBy_10 rfl 3 rfl ?_
    obtain ⟨ht9, hf9⟩ := gi_br h; clear h
    refine g_if_ne (tgt := 15) K dX12_onesBy_11 (by decide) (fun qh => ?_) (fun qh => ?_)
    · have h := hf9 qh; clear ht9 hf9
      refine g_aload_n K dX12_onesBy_15 rfl 1 rfl ?_
      refine mg_1 K hin_X12 (u_980) dX12_onesBy_16 ?_
      refine g_bipush (v := 60) K dX12_onesBy_19 (by decide) ?_
      refine g_iload_n K dX12_onesBy_21 rfl 2 rfl ?_
      refine g_iadd K dX12_onesBy_22 ?_
      obtain ⟨b_3, h⟩ := gi_none h
      refine g_iald (f := (A 1)) K 1 rfl (ginb_in b_3) dX12_onesBy_23 ?_
      refine g_iconst (v := 5) K dX12_onesBy_24 (by decide) ?_
      obtain ⟨ht9, hf9⟩ := gi_br h; clear h
      refine g_icmp_ne (tgt := 78) K dX12_onesBy_25 (by decide) (fun qh => ?_) (fun qh => ?_)
      · have h := hf9 qh; clear ht9 hf9
        refine g_sub (L' := [(0, .ref m), (1, .int x1), (2, .int x2)]) [1, 2, 3] rfl ?_
        exact wX12_onesBy_78 K hlt hRm hret a13 x1 x2 h
      · have h := ht9 qh; clear ht9 hf9
        refine g_iload_n K dX12_onesBy_28 rfl 0 rfl ?_
        refine g_aload_n K dX12_onesBy_29 rfl 1 rfl ?_
        refine mg_1 K hin_X12 (u_980) dX12_onesBy_30 ?_
        refine g_bipush (v := 51) K dX12_onesBy_33 (by decide) ?_
        obtain ⟨b_4, h⟩ := gi_none h
        refine g_iald (f := (A 1)) K 1 rfl (ginb_in b_4) dX12_onesBy_35 ?_
        obtain ⟨ht9, hf9⟩ := gi_br h; clear h
        refine g_icmp_ge (tgt := 78) K dX12_onesBy_36 (by decide) (fun qh => ?_) (fun qh => ?_)
        · have h := ht9 qh; clear ht9 hf9
          refine g_sub (L' := [(0, .ref m), (1, .int x1), (2, .int x2)]) [1, 2, 3] rfl ?_
          exact wX12_onesBy_78 K hlt hRm hret a13 x1 x2 h
        · have h := hf9 qh; clear ht9 hf9
          refine g_aload_n K dX12_onesBy_39 rfl 1 rfl ?_
          refine mg_15 K hin_X12 (u_994) dX12_onesBy_40 ?_
          refine g_iload_n K dX12_onesBy_43 rfl 0 rfl ?_
          obtain ⟨b_5, h⟩ := gi_none h
          refine g_zald (f := (A 15)) K 9 rfl (ginb_in b_5) dX12_onesBy_44 ?_
          obtain ⟨ht9, hf9⟩ := gi_br h; clear h
          refine g_if_eq (tgt := 78) K dX12_onesBy_45 (by decide) (fun qh => ?_) (fun qh => ?_)
          · have h := ht9 qh; clear ht9 hf9
            refine g_sub (L' := [(0, .ref m), (1, .int x1), (2, .int x2)]) [1, 2, 3] rfl ?_
            exact wX12_onesBy_78 K hlt hRm hret a13 x1 x2 h
          · have h := hf9 qh; clear ht9 hf9
            refine g_aload_n K dX12_onesBy_48 rfl 1 rfl ?_
            refine mg_13 K hin_X12 (u_992) dX12_onesBy_49 ?_
            refine g_iload_n K dX12_onesBy_52 rfl 0 rfl ?_
            refine g_iconst (v := 1) K dX12_onesBy_53 (by decide) ?_
            obtain ⟨b_6, h⟩ := gi_none h
            obtain ⟨f_7, ef_7, h⟩ := gi_nm h
            refine g_iast (f := a13) (ws' := mw (g_E Γ) m r o (gu A 13 f_7)) K 7 rfl (ginb_in b_6) dX12_onesBy_54 (by rw [ef_7]; rfl) ?_
            refine g_aload_n K dX12_onesBy_55 rfl 1 rfl ?_
            obtain ⟨z_8, hz_8, h⟩ := gi_bd h
            refine g_callVi (As := []) (bytes := cX12_inTeam) (maxL := 3) (ret := (some .int)) K (ctX12_inTeam o (gu A 13 f_7) (res := z_8) hz_8) gc_V_RX12_158_X12_inTeam rfl qv_X12_inTeam 0 rfl rfl rfl hRm rfl rfl rfl (by decide) (Nat.le_of_ble_eq_true rfl) (by decide) dX12_onesBy_56 (fun v w hw => ?_)
            obtain ⟨hv9, rfl⟩ := hw; have hv9 := hv9.symm; subst hv9
            refine g_iconst (v := 1) K dX12_onesBy_59 (by decide) ?_
            obtain ⟨ht9, hf9⟩ := gi_br h; clear h
            refine g_icmp_le (tgt := 126) K dX12_onesBy_60 (by decide) (fun qh => ?_) (fun qh => ?_)
            · have h := ht9 qh; clear ht9 hf9
              obtain rfl := Option.some.inj h
              exact hret _ _ _ dX12_onesBy_126 rfl
            · have h := hf9 qh; clear ht9 hf9
              refine g_aload_n K dX12_onesBy_63 rfl 1 rfl ?_
              refine g_aload_n K dX12_onesBy_64 rfl 1 rfl ?_
              refine mg_13 K hin_X12 (u_992) dX12_onesBy_65 ?_
              refine g_iload_n K dX12_onesBy_68 rfl 3 rfl ?_
              refine g_iconst (v := 1) K dX12_onesBy_69 (by decide) ?_
              refine g_isub K dX12_onesBy_70 ?_
              refine g_iload_n K dX12_onesBy_71 rfl 0 rfl ?_
              obtain ⟨z_9, hz_9, h⟩ := gi_bd h
              refine g_callVv (As := [.ref (r 13), .int (x2 - 1), .int v_2]) (bytes := cX12_turnsOnes) (maxL := 8) (ret := none) K (ctX12_turnsOnes_at13 o (gu A 13 f_7) (x2 - 1) v_2 (res := z_9) hz_9) gc_V_RX12_161_X12_turnsOnes rfl qv_X12_turnsOnes 0 rfl rfl rfl hRm rfl rfl rfl (by decide) (Nat.le_of_ble_eq_true rfl) (by decide) dX12_onesBy_72 (fun w hw => ?_)
              subst hw
              refine g_ws (ws' := mw (g_E Γ) m r o (gu A 13 z_9)) rfl ?_
              refine g_goto (tgt := 126) K dX12_onesBy_75 (by decide) ?_
              obtain rfl := Option.some.inj h
              exact hret _ _ _ dX12_onesBy_126 rfl
    · have h := ht9 qh; clear ht9 hf9
      obtain rfl := Option.some.inj h
      exact hret _ _ _ dX12_onesBy_14 rfl

set_option maxRecDepth 100000 in
theorem ctX12_onesBy {E : gE} {m : Nat} {r : Nat → Nat} (o : Nat → Int32) (A : Nat → Nat → Int32) (x1 : Int32) (x2 : Int32) {res : ((Nat → Int32))} (h : pX12_onesBy (A 1) (A 12) (A 15) (A 13) x1 x2 = some res) : gMv yX12_onesBy (.code yX12_onesBy cX12_onesBy 4 none :: gU) ({ frames := 6, cells := 0, slots := 0, locals := 199 } : Room) 0 0 E [.ref m, .int x1, .int x2] (mw E m r o A) (fun w => w = mw E m r o (gu A 13 res)) := by
  refine g_met_v (by decide +kernel) (Nat.le_of_ble_eq_true rfl) (fun Γ K hn hE hRm _ hret => ?_)
  subst hE
  have hlt : ∀ i, i < 4 → i < g_n Γ := fun i q => by rw [hn]; exact q
  refine g_ws (ws' := mw (g_E Γ) m r o (gu A 13 (A 13))) rfl ?_
  refine g_sub (L' := [(0, .ref m), (1, .int x1), (2, .int x2)]) [0, 1, 2] rfl ?_
  exact wX12_onesBy K hlt hRm hret (A 13) x1 x2 h

set_option maxHeartbeats 4000000 in
set_option maxRecDepth 100000 in
theorem wX12_gradesTeam_76 {Γ : gT} {m : Nat} {r : Nat → Nat} {o : Nat → Int32} {A : Nat → Nat → Int32} (K : gOK Γ cX12_gradesTeam gU RX12) (hlt : ∀ i, i < 3 → i < g_n Γ) (hRm : g_R Γ = ({ frames := 7, cells := 0, slots := 0, locals := 222 } : Room)) {res : ((Nat → Int32)) × ((Nat → Int32))} (hret : ∀ (pc : Nat) (L : List (Nat × Value)) (w : va_W), decode cX12_gradesTeam pc = .ok (.return_, 1) → (w = mw (g_E Γ) m r o (gu (gu A 13 res.1) 15 res.2)) → gGO Γ 0 0 pc L [] w) (a13 : (Nat → Int32)) (a15 : (Nat → Int32)) (x1 : Int32) (h : pX12_gradesTeam_76 (A 1) (A 12) a13 a15 x1 = some res) : gGO Γ 0 0 76 [(0, .ref m), (1, .int x1)] [] (mw (g_E Γ) m r o (gu (gu A 13 a13) 15 a15)) := by
    unfold pX12_gradesTeam_76 at h
    refine g_aload_n K dX12_gradesTeam_76 rfl 0 rfl ?_
    refine g_aload_n K dX12_gradesTeam_77 rfl 0 rfl ?_
    refine mg_13 K hin_X12 (u_992) dX12_gradesTeam_78 ?_
    refine g_aload_n K dX12_gradesTeam_81 rfl 0 rfl ?_
    refine g_aload_n K dX12_gradesTeam_82 rfl 0 rfl ?_
    refine g_iconst (v := 0) K dX12_gradesTeam_83 (by decide) ?_
    obtain ⟨z_1, hz_1, h⟩ := gi_bd h
    refine g_callVi (As := [.int 0]) (bytes := cX12_told) (maxL := 2) (ret := (some .int)) K (ctX12_told o (gu (gu A 13 a13) 15 a15) 0 (res := z_1) hz_1) gc_V_RX12_169_X12_told rfl qv_X12_told 0 rfl rfl rfl hRm rfl rfl rfl (by decide) (Nat.le_of_ble_eq_true rfl) (by decide) dX12_gradesTeam_84 (fun v w hw => ?_)
    obtain ⟨hv9, rfl⟩ := hw; have hv9 := hv9.symm; subst hv9
    obtain ⟨z_2, hz_2, h⟩ := gi_bd h
    refine g_callVi (As := [.int z_1]) (bytes := cX12_shareOf) (maxL := 2) (ret := (some .int)) K (ctX12_shareOf o (gu (gu A 13 a13) 15 a15) z_1 (res := z_2) hz_2) gc_V_RX12_172_X12_shareOf rfl qv_X12_shareOf 0 rfl rfl rfl hRm rfl rfl rfl (by decide) (Nat.le_of_ble_eq_true rfl) (by decide) dX12_gradesTeam_87 (fun v w hw => ?_)
    obtain ⟨hv9, rfl⟩ := hw; have hv9 := hv9.symm; subst hv9
    obtain ⟨z_3, hz_3, h⟩ := gi_bd h
    refine g_callVv (As := [.ref (r 13), .int z_2]) (bytes := cX12_givesFives) (maxL := 7) (ret := none) K (ctX12_givesFives_at13 o (gu (gu A 13 a13) 15 a15) z_2 (res := z_3) hz_3) gc_V_RX12_175_X12_givesFives rfl qv_X12_givesFives 0 rfl rfl rfl hRm rfl rfl rfl (by decide) (Nat.le_of_ble_eq_true rfl) (by decide) dX12_gradesTeam_90 (fun w hw => ?_)
    subst hw
    refine g_ws (ws' := mw (g_E Γ) m r o (gu (gu A 13 z_3) 15 a15)) rfl ?_
    refine g_aload_n K dX12_gradesTeam_93 rfl 0 rfl ?_
    refine g_iload_n K dX12_gradesTeam_94 rfl 1 rfl ?_
    refine g_aload_n K dX12_gradesTeam_95 rfl 0 rfl ?_
    refine g_aload_n K dX12_gradesTeam_96 rfl 0 rfl ?_
    refine g_iconst (v := 1) K dX12_gradesTeam_97 (by decide) ?_
    obtain ⟨z_4, hz_4, h⟩ := gi_bd h
    refine g_callVi (As := [.int 1]) (bytes := cX12_told) (maxL := 2) (ret := (some .int)) K (ctX12_told o (gu (gu A 13 z_3) 15 a15) 1 (res := z_4) hz_4) gc_V_RX12_169_X12_told rfl qv_X12_told 0 rfl rfl rfl hRm rfl rfl rfl (by decide) (Nat.le_of_ble_eq_true rfl) (by decide) dX12_gradesTeam_98 (fun v w hw => ?_)
    obtain ⟨hv9, rfl⟩ := hw; have hv9 := hv9.symm; subst hv9
    obtain ⟨z_5, hz_5, h⟩ := gi_bd h
    refine g_callVi (As := [.int z_4]) (bytes := cX12_shareOf) (maxL := 2) (ret := (some .int)) K (ctX12_shareOf o (gu (gu A 13 z_3) 15 a15) z_4 (res := z_5) hz_5) gc_V_RX12_172_X12_shareOf rfl qv_X12_shareOf 0 rfl rfl rfl hRm rfl rfl rfl (by decide) (Nat.le_of_ble_eq_true rfl) (by decide) dX12_gradesTeam_101 (fun v w hw => ?_)
    obtain ⟨hv9, rfl⟩ := hw; have hv9 := hv9.symm; subst hv9
    obtain ⟨z_6, hz_6, h⟩ := gi_bd h
    refine g_callVv (As := [.int x1, .int z_5]) (bytes := cX12_onesBy) (maxL := 4) (ret := none) K (ctX12_onesBy o (gu (gu A 13 z_3) 15 a15) x1 z_5 (res := z_6) hz_6) gc_V_RX12_178_X12_onesBy rfl qv_X12_onesBy 0 rfl rfl rfl hRm rfl rfl rfl (by decide) (Nat.le_of_ble_eq_true rfl) (by decide) dX12_gradesTeam_104 (fun w hw => ?_)
    subst hw
    refine g_ws (ws' := mw (g_E Γ) m r o (gu (gu A 13 z_6) 15 a15)) rfl ?_
    obtain rfl := Option.some.inj h
    exact hret _ _ _ dX12_gradesTeam_107 rfl

set_option maxHeartbeats 4000000 in
set_option maxRecDepth 100000 in
theorem wX12_gradesTeam_36 {Γ : gT} {m : Nat} {r : Nat → Nat} {o : Nat → Int32} {A : Nat → Nat → Int32} (K : gOK Γ cX12_gradesTeam gU RX12) (hlt : ∀ i, i < 3 → i < g_n Γ) (hRm : g_R Γ = ({ frames := 7, cells := 0, slots := 0, locals := 222 } : Room)) {res : ((Nat → Int32)) × ((Nat → Int32))} (hret : ∀ (pc : Nat) (L : List (Nat × Value)) (w : va_W), decode cX12_gradesTeam pc = .ok (.return_, 1) → (w = mw (g_E Γ) m r o (gu (gu A 13 res.1) 15 res.2)) → gGO Γ 0 0 pc L [] w) {k2 : (Nat → Int32) → (Nat → Int32) → Int32 → Int32 → Option (((Nat → Int32)) × ((Nat → Int32)))} (hk2 : ∀ (a13 : (Nat → Int32)) (a15 : (Nat → Int32)) (x1 : Int32) (x2 : Int32), k2 a13 a15 x1 x2 = some res → gGO Γ 0 0 2 [(0, .ref m), (1, .int x1), (2, .int x2)] [] (mw (g_E Γ) m r o (gu (gu A 13 a13) 15 a15))) (a13 : (Nat → Int32)) (a15 : (Nat → Int32)) (x1 : Int32) (x2 : Int32) (y1 : Int32) (y2 : Int32) (h : pX12_gradesTeam_36 k2 (A 1) (A 12) a13 a15 x1 x2 y1 y2 = some res) : gGO Γ 0 0 36 [(0, .ref m), (1, .int x1), (2, .int x2)] [.int y2, .int y1, .ref (r 15)] (mw (g_E Γ) m r o (gu (gu A 13 a13) 15 a15)) := by
    unfold pX12_gradesTeam_36 at h
    obtain ⟨b_1, h⟩ := gi_none h
    obtain ⟨f_2, ef_2, h⟩ := gi_nm h
    refine g_zast (f := a15) (ws' := mw (g_E Γ) m r o (gu (gu A 13 a13) 15 f_2)) K 9 rfl (ginb_in b_1) dX12_gradesTeam_36 (by rw [ef_2]; rfl) ?_
    refine g_aload_n K dX12_gradesTeam_37 rfl 0 rfl ?_
    refine mg_13 K hin_X12 (u_992) dX12_gradesTeam_38 ?_
    refine g_iload_n K dX12_gradesTeam_41 rfl 2 rfl ?_
    refine g_aload_n K dX12_gradesTeam_42 rfl 0 rfl ?_
    refine mg_15 K hin_X12 (u_994) dX12_gradesTeam_43 ?_
    refine g_iload_n K dX12_gradesTeam_46 rfl 2 rfl ?_
    obtain ⟨b_3, h⟩ := gi_none h
    refine g_zald (f := f_2) K 9 rfl (ginb_in b_3) dX12_gradesTeam_47 ?_
    obtain ⟨ht9, hf9⟩ := gi_br h; clear h
    refine g_if_eq (tgt := 63) K dX12_gradesTeam_48 (by decide) (fun qh => ?_) (fun qh => ?_)
    · have h := ht9 qh; clear ht9 hf9
      refine g_aload_n K dX12_gradesTeam_63 rfl 0 rfl ?_
      refine mg_13 K hin_X12 (u_992) dX12_gradesTeam_64 ?_
      refine g_iload_n K dX12_gradesTeam_67 rfl 2 rfl ?_
      obtain ⟨b_4, h⟩ := gi_none h
      refine g_iald (f := a13) K 7 rfl (ginb_in b_4) dX12_gradesTeam_68 ?_
      obtain ⟨b_5, h⟩ := gi_none h
      obtain ⟨f_6, ef_6, h⟩ := gi_nm h
      refine g_iast (f := a13) (ws' := mw (g_E Γ) m r o (gu (gu A 13 f_6) 15 f_2)) K 7 rfl (ginb_in b_5) dX12_gradesTeam_69 (by rw [ef_6]; rfl) ?_
      refine g_iinc (v := (x2 + 1)) (L' := [(2, .int (x2 + 1)), (0, .ref m), (1, .int x1)]) K dX12_gradesTeam_70 2 rfl rfl (hlt _ (by decide)) rfl ?_
      refine g_goto (tgt := 2) K dX12_gradesTeam_73 (by decide) ?_
      refine g_sub (L' := [(0, .ref m), (1, .int x1), (2, .int (x2 + 1))]) [1, 2, 0] rfl ?_
      exact hk2 f_6 f_2 x1 (x2 + 1) h
    · have h := hf9 qh; clear ht9 hf9
      refine g_aload_n K dX12_gradesTeam_51 rfl 0 rfl ?_
      refine mg_12 K hin_X12 (u_991) dX12_gradesTeam_52 ?_
      refine g_iload_n K dX12_gradesTeam_55 rfl 2 rfl ?_
      obtain ⟨b_7, h⟩ := gi_none h
      refine g_iald (f := (A 12)) K 6 rfl (ginb_in b_7) dX12_gradesTeam_56 ?_
      obtain ⟨z_8, hz_8, h⟩ := gi_bd h
      refine g_callSi (As := [.int ((A 12) (Int32.toNatClampNeg x2))]) (bytes := cX12_gradeBy) (maxL := 1) (ret := (some .int)) K (ctX12_gradeBy (ws := mw (g_E Γ) m r o (gu (gu A 13 a13) 15 f_2)) ((A 12) (Int32.toNatClampNeg x2)) (res := z_8) hz_8) gc_S_RX12_155_X12_gradeBy rfl qs_X12_gradeBy hRm rfl rfl rfl (by decide) (Nat.le_of_ble_eq_true rfl) (by decide) dX12_gradesTeam_57 (fun v w hw => ?_)
      obtain ⟨hv9, rfl⟩ := hw; have hv9 := hv9.symm; subst hv9
      refine g_goto (tgt := 69) K dX12_gradesTeam_60 (by decide) ?_
      obtain ⟨b_9, h⟩ := gi_none h
      obtain ⟨f_10, ef_10, h⟩ := gi_nm h
      refine g_iast (f := a13) (ws' := mw (g_E Γ) m r o (gu (gu A 13 f_10) 15 f_2)) K 7 rfl (ginb_in b_9) dX12_gradesTeam_69 (by rw [ef_10]; rfl) ?_
      refine g_iinc (v := (x2 + 1)) (L' := [(2, .int (x2 + 1)), (0, .ref m), (1, .int x1)]) K dX12_gradesTeam_70 2 rfl rfl (hlt _ (by decide)) rfl ?_
      refine g_goto (tgt := 2) K dX12_gradesTeam_73 (by decide) ?_
      refine g_sub (L' := [(0, .ref m), (1, .int x1), (2, .int (x2 + 1))]) [1, 2, 0] rfl ?_
      exact hk2 f_10 f_2 x1 (x2 + 1) h

set_option maxHeartbeats 4000000 in
set_option maxRecDepth 100000 in
theorem wX12_gradesTeam_2 {Γ : gT} {m : Nat} {r : Nat → Nat} {o : Nat → Int32} {A : Nat → Nat → Int32} (K : gOK Γ cX12_gradesTeam gU RX12) (hlt : ∀ i, i < 3 → i < g_n Γ) (hRm : g_R Γ = ({ frames := 7, cells := 0, slots := 0, locals := 222 } : Room)) {res : ((Nat → Int32)) × ((Nat → Int32))} (hret : ∀ (pc : Nat) (L : List (Nat × Value)) (w : va_W), decode cX12_gradesTeam pc = .ok (.return_, 1) → (w = mw (g_E Γ) m r o (gu (gu A 13 res.1) 15 res.2)) → gGO Γ 0 0 pc L [] w) : ∀ (n : Nat) (a13 : (Nat → Int32)) (a15 : (Nat → Int32)) (x1 : Int32) (x2 : Int32), pX12_gradesTeam_2 (A 1) (A 12) n a13 a15 x1 x2 = some res → gGO Γ 0 0 2 [(0, .ref m), (1, .int x1), (2, .int x2)] [] (mw (g_E Γ) m r o (gu (gu A 13 a13) 15 a15)) := by
  intro n
  induction n with
  | zero => intro _ _ _ _ h; cases h
  | succ n ih =>
    intro a13 a15 x1 x2 h
    simp only [pX12_gradesTeam_2] at h
    refine g_iload_n K dX12_gradesTeam_2 rfl 2 rfl ?_
    refine g_aload_n K dX12_gradesTeam_3 rfl 0 rfl ?_
    refine mg_1 K hin_X12 (u_980) dX12_gradesTeam_4 ?_
    refine g_bipush (v := 51) K dX12_gradesTeam_7 (by decide) ?_
    obtain ⟨b_1, h⟩ := gi_none h
    refine g_iald (f := (A 1)) K 1 rfl (ginb_in b_1) dX12_gradesTeam_9 ?_
    obtain ⟨ht9, hf9⟩ := gi_br h; clear h
    refine g_icmp_ge (tgt := 76) K dX12_gradesTeam_10 (by decide) (fun qh => ?_) (fun qh => ?_)
    · have h := ht9 qh; clear ht9 hf9
      refine g_sub (L' := [(0, .ref m), (1, .int x1)]) [0, 1] rfl ?_
      exact wX12_gradesTeam_76 K hlt hRm hret a13 a15 x1 h
    · have h := hf9 qh; clear ht9 hf9
      refine g_aload_n K dX12_gradesTeam_13 rfl 0 rfl ?_
      refine mg_15 K hin_X12 (u_994) dX12_gradesTeam_14 ?_
      refine g_iload_n K dX12_gradesTeam_17 rfl 2 rfl ?_
      refine g_aload_n K dX12_gradesTeam_18 rfl 0 rfl ?_
      refine mg_1 K hin_X12 (u_980) dX12_gradesTeam_19 ?_
      refine g_bipush (v := 31) K dX12_gradesTeam_22 (by decide) ?_
      refine g_iload_n K dX12_gradesTeam_24 rfl 2 rfl ?_
      refine g_iadd K dX12_gradesTeam_25 ?_
      obtain ⟨b_2, h⟩ := gi_none h
      refine g_iald (f := (A 1)) K 1 rfl (ginb_in b_2) dX12_gradesTeam_26 ?_
      refine g_iload_n K dX12_gradesTeam_27 rfl 1 rfl ?_
      obtain ⟨ht9, hf9⟩ := gi_br h; clear h
      refine g_icmp_ne (tgt := 35) K dX12_gradesTeam_28 (by decide) (fun qh => ?_) (fun qh => ?_)
      · have h := hf9 qh; clear ht9 hf9
        refine g_iconst (v := 0) K dX12_gradesTeam_35 (by decide) ?_
        exact wX12_gradesTeam_36 K hlt hRm hret ih a13 a15 x1 x2 x2 0 h
      · have h := ht9 qh; clear ht9 hf9
        refine g_iconst (v := 1) K dX12_gradesTeam_31 (by decide) ?_
        refine g_goto (tgt := 36) K dX12_gradesTeam_32 (by decide) ?_
        exact wX12_gradesTeam_36 K hlt hRm hret ih a13 a15 x1 x2 x2 1 h

set_option maxHeartbeats 4000000 in
set_option maxRecDepth 100000 in
theorem wX12_gradesTeam {Γ : gT} {m : Nat} {r : Nat → Nat} {o : Nat → Int32} {A : Nat → Nat → Int32} (K : gOK Γ cX12_gradesTeam gU RX12) (hlt : ∀ i, i < 3 → i < g_n Γ) (hRm : g_R Γ = ({ frames := 7, cells := 0, slots := 0, locals := 222 } : Room)) {res : ((Nat → Int32)) × ((Nat → Int32))} (hret : ∀ (pc : Nat) (L : List (Nat × Value)) (w : va_W), decode cX12_gradesTeam pc = .ok (.return_, 1) → (w = mw (g_E Γ) m r o (gu (gu A 13 res.1) 15 res.2)) → gGO Γ 0 0 pc L [] w) (a13 : (Nat → Int32)) (a15 : (Nat → Int32)) (x1 : Int32) (h : pX12_gradesTeam (A 1) (A 12) a13 a15 x1 = some res) : gGO Γ 0 0 0 [(0, .ref m), (1, .int x1)] [] (mw (g_E Γ) m r o (gu (gu A 13 a13) 15 a15)) := by
    unfold pX12_gradesTeam at h
    refine g_iconst (v := 0) K dX12_gradesTeam_0 (by decide) ?_
    refine g_istore_n (L' := [(2, .int 0), (0, .ref m), (1, .int x1)]) K dX12_gradesTeam_1 rfl (hlt _ (by decide)) rfl ?_
    refine g_sub (L' := [(0, .ref m), (1, .int x1), (2, .int 0)]) [1, 2, 0] rfl ?_
    exact wX12_gradesTeam_2 K hlt hRm hret 1000 a13 a15 x1 0 h

set_option maxRecDepth 100000 in
theorem ctX12_gradesTeam {E : gE} {m : Nat} {r : Nat → Nat} (o : Nat → Int32) (A : Nat → Nat → Int32) (x1 : Int32) {res : ((Nat → Int32)) × ((Nat → Int32))} (h : pX12_gradesTeam (A 1) (A 12) (A 13) (A 15) x1 = some res) : gMv yX12_gradesTeam (.code yX12_gradesTeam cX12_gradesTeam 3 none :: gU) ({ frames := 7, cells := 0, slots := 0, locals := 222 } : Room) 0 0 E [.ref m, .int x1] (mw E m r o A) (fun w => w = mw E m r o (gu (gu A 13 res.1) 15 res.2)) := by
  refine g_met_v (by decide +kernel) (Nat.le_of_ble_eq_true rfl) (fun Γ K hn hE hRm _ hret => ?_)
  subst hE
  have hlt : ∀ i, i < 3 → i < g_n Γ := fun i q => by rw [hn]; exact q
  refine g_ws (ws' := mw (g_E Γ) m r o (gu (gu A 13 (A 13)) 15 (A 15))) rfl ?_
  refine g_sub (L' := [(0, .ref m), (1, .int x1)]) [0, 1] rfl ?_
  exact wX12_gradesTeam K hlt hRm hret (A 13) (A 15) x1 h

set_option maxHeartbeats 4000000 in
set_option maxRecDepth 100000 in
theorem wX12_teamOf_4 {Γ : gT} {m : Nat} {r : Nat → Nat} {o : Nat → Int32} {A : Nat → Nat → Int32} (K : gOK Γ cX12_teamOf gU RX12) (hlt : ∀ i, i < 4 → i < g_n Γ) (hRm : g_R Γ = ({ frames := 4, cells := 0, slots := 0, locals := 150 } : Room)) {res : Int32} (hret : ∀ (pc : Nat) (L : List (Nat × Value)) (v : Int32) (w : va_W), decode cX12_teamOf pc = .ok (.ireturn, 1) → narrow .int (.int v) = .int v → (v = res ∧ w = mw (g_E Γ) m r o A) → gGO Γ 0 0 pc L [.int v] w) : ∀ (n : Nat) (x1 : Int32) (x2 : Int32) (x3 : Int32), pX12_teamOf_4 (A 1) n x1 x2 x3 = some res → gGO Γ 0 0 4 [(0, .ref m), (1, .int x1), (2, .int x2), (3, .int x3)] [] (mw (g_E Γ) m r o A) := by
  intro n
  induction n with
  | zero => intro _ _ _ h; cases h
  | succ n ih =>
    intro x1 x2 x3 h
    simp only [pX12_teamOf_4] at h
    refine g_iload_n K dX12_teamOf_4 rfl 3 rfl ?_
    refine g_aload_n K dX12_teamOf_5 rfl 0 rfl ?_
    refine mg_1 K hin_X12 (u_980) dX12_teamOf_6 ?_
    refine g_bipush (v := 51) K dX12_teamOf_9 (by decide) ?_
    obtain ⟨b_1, h⟩ := gi_none h
    refine g_iald (f := (A 1)) K 1 rfl (ginb_in b_1) dX12_teamOf_11 ?_
    obtain ⟨ht9, hf9⟩ := gi_br h; clear h
    refine g_icmp_ge (tgt := 42) K dX12_teamOf_12 (by decide) (fun qh => ?_) (fun qh => ?_)
    · have h := ht9 qh; clear ht9 hf9
      refine g_iload_n K dX12_teamOf_42 rfl 2 rfl ?_
      obtain rfl := Option.some.inj h
      exact hret _ _ _ _ dX12_teamOf_43 rfl ⟨rfl, rfl⟩
    · have h := hf9 qh; clear ht9 hf9
      refine g_iload_n K dX12_teamOf_15 rfl 2 rfl ?_
      refine g_aload_n K dX12_teamOf_16 rfl 0 rfl ?_
      refine mg_1 K hin_X12 (u_980) dX12_teamOf_17 ?_
      refine g_bipush (v := 31) K dX12_teamOf_20 (by decide) ?_
      refine g_iload_n K dX12_teamOf_22 rfl 3 rfl ?_
      refine g_iadd K dX12_teamOf_23 ?_
      obtain ⟨b_2, h⟩ := gi_none h
      refine g_iald (f := (A 1)) K 1 rfl (ginb_in b_2) dX12_teamOf_24 ?_
      refine g_iload_n K dX12_teamOf_25 rfl 1 rfl ?_
      obtain ⟨ht9, hf9⟩ := gi_br h; clear h
      refine g_icmp_ne (tgt := 33) K dX12_teamOf_26 (by decide) (fun qh => ?_) (fun qh => ?_)
      · have h := hf9 qh; clear ht9 hf9
        refine g_iconst (v := 0) K dX12_teamOf_33 (by decide) ?_
        refine g_iadd K dX12_teamOf_34 ?_
        obtain ⟨v_3, ev_3, h⟩ := gi_nm h
        refine g_topi ev_3 ?_
        refine g_istore_n (L' := [(2, .int v_3), (0, .ref m), (1, .int x1), (3, .int x3)]) K dX12_teamOf_35 rfl (hlt _ (by decide)) rfl ?_
        refine g_iinc (v := (x3 + 1)) (L' := [(3, .int (x3 + 1)), (2, .int v_3), (0, .ref m), (1, .int x1)]) K dX12_teamOf_36 3 rfl rfl (hlt _ (by decide)) rfl ?_
        refine g_goto (tgt := 4) K dX12_teamOf_39 (by decide) ?_
        refine g_sub (L' := [(0, .ref m), (1, .int x1), (2, .int v_3), (3, .int (x3 + 1))]) [2, 3, 1, 0] rfl ?_
        exact ih x1 v_3 (x3 + 1) h
      · have h := ht9 qh; clear ht9 hf9
        refine g_iconst (v := 1) K dX12_teamOf_29 (by decide) ?_
        refine g_goto (tgt := 34) K dX12_teamOf_30 (by decide) ?_
        refine g_iadd K dX12_teamOf_34 ?_
        obtain ⟨v_4, ev_4, h⟩ := gi_nm h
        refine g_topi ev_4 ?_
        refine g_istore_n (L' := [(2, .int v_4), (0, .ref m), (1, .int x1), (3, .int x3)]) K dX12_teamOf_35 rfl (hlt _ (by decide)) rfl ?_
        refine g_iinc (v := (x3 + 1)) (L' := [(3, .int (x3 + 1)), (2, .int v_4), (0, .ref m), (1, .int x1)]) K dX12_teamOf_36 3 rfl rfl (hlt _ (by decide)) rfl ?_
        refine g_goto (tgt := 4) K dX12_teamOf_39 (by decide) ?_
        refine g_sub (L' := [(0, .ref m), (1, .int x1), (2, .int v_4), (3, .int (x3 + 1))]) [2, 3, 1, 0] rfl ?_
        exact ih x1 v_4 (x3 + 1) h

set_option maxHeartbeats 4000000 in
set_option maxRecDepth 100000 in
theorem wX12_teamOf {Γ : gT} {m : Nat} {r : Nat → Nat} {o : Nat → Int32} {A : Nat → Nat → Int32} (K : gOK Γ cX12_teamOf gU RX12) (hlt : ∀ i, i < 4 → i < g_n Γ) (hRm : g_R Γ = ({ frames := 4, cells := 0, slots := 0, locals := 150 } : Room)) {res : Int32} (hret : ∀ (pc : Nat) (L : List (Nat × Value)) (v : Int32) (w : va_W), decode cX12_teamOf pc = .ok (.ireturn, 1) → narrow .int (.int v) = .int v → (v = res ∧ w = mw (g_E Γ) m r o A) → gGO Γ 0 0 pc L [.int v] w) (x1 : Int32) (h : pX12_teamOf (A 1) x1 = some res) : gGO Γ 0 0 0 [(0, .ref m), (1, .int x1)] [] (mw (g_E Γ) m r o A) := by
    unfold pX12_teamOf at h
    refine g_iconst (v := 0) K dX12_teamOf_0 (by decide) ?_
    refine g_istore_n (L' := [(2, .int 0), (0, .ref m), (1, .int x1)]) K dX12_teamOf_1 rfl (hlt _ (by decide)) rfl ?_
    refine g_iconst (v := 0) K dX12_teamOf_2 (by decide) ?_
    refine g_istore_n (L' := [(3, .int 0), (2, .int 0), (0, .ref m), (1, .int x1)]) K dX12_teamOf_3 rfl (hlt _ (by decide)) rfl ?_
    refine g_sub (L' := [(0, .ref m), (1, .int x1), (2, .int 0), (3, .int 0)]) [2, 3, 1, 0] rfl ?_
    exact wX12_teamOf_4 K hlt hRm hret 1000 x1 0 0 h

set_option maxRecDepth 100000 in
theorem ctX12_teamOf {E : gE} {m : Nat} {r : Nat → Nat} (o : Nat → Int32) (A : Nat → Nat → Int32) (x1 : Int32) {res : Int32} (h : pX12_teamOf (A 1) x1 = some res) : gMi yX12_teamOf (.code yX12_teamOf cX12_teamOf 4 (some .int) :: gU) ({ frames := 4, cells := 0, slots := 0, locals := 150 } : Room) 0 0 E [.ref m, .int x1] (mw E m r o A) (fun v w => v = res ∧ w = mw E m r o A) := by
  refine g_met_i (by decide +kernel) (Nat.le_of_ble_eq_true rfl) (fun Γ K hn hE hRm _ hret => ?_)
  subst hE
  have hlt : ∀ i, i < 4 → i < g_n Γ := fun i q => by rw [hn]; exact q
  refine g_sub (L' := [(0, .ref m), (1, .int x1)]) [0, 1] rfl ?_
  exact wX12_teamOf K hlt hRm hret x1 h

