set_option maxHeartbeats 4000000 in
set_option maxRecDepth 100000 in
theorem wX2_sign {Γ : gT} {hb tx N : Nat} {rr : Nat → Nat} {o : Nat → Int32} {A : Nat → Nat → Int32} (K : gOK Γ cX2_sign gU RX2) (hlt : ∀ i, i < 1 → i < g_n Γ) (hRm : g_R Γ = ({ frames := 4, cells := 0, slots := 0, locals := 150 } : Room)) {res : Int32} (hret : ∀ (pc : Nat) (L : List (Nat × Value)) (v : Int32) (w : va_W), decode cX2_sign pc = .ok (.ireturn, 1) → narrow .int (.int v) = .int v → (v = res ∧ w = hw (g_E Γ) hb tx rr N o A) → gGO Γ 0 0 pc L [.int v] w) (h : pX2_sign N (A 3) (o 4) (o 5) (o 6) = some res) : gGO Γ 0 0 0 [(0, .ref hb)] [] (hw (g_E Γ) hb tx rr N o A) := by
    unfold pX2_sign at h
    refine g_aload_n K dX2_sign_0 rfl 0 rfl ?_
    refine hg_6 (v := (o 6)) K hin_X2 (u_128) rfl dX2_sign_1 ?_
    obtain ⟨ht9, hf9⟩ := gi_br h; clear h
    refine g_if_ne (tgt := 25) K dX2_sign_4 (by decide) (fun qh => ?_) (fun qh => ?_)
    · have h := hf9 qh; clear ht9 hf9
      refine g_iconst (v := (-1)) K dX2_sign_25 (by decide) ?_
      refine g_goto (tgt := 38) K dX2_sign_26 (by decide) ?_
      obtain rfl := Option.some.inj h
      exact hret _ _ _ _ dX2_sign_38 rfl ⟨rfl, rfl⟩
    · have h := ht9 qh; clear ht9 hf9
      refine g_aload_n K dX2_sign_7 rfl 0 rfl ?_
      refine hg_5 (v := (o 5)) K hin_X2 (u_127) rfl dX2_sign_8 ?_
      obtain ⟨ht9, hf9⟩ := gi_br h; clear h
      refine g_if_lt (tgt := 25) K dX2_sign_11 (by decide) (fun qh => ?_) (fun qh => ?_)
      · have h := ht9 qh; clear ht9 hf9
        refine g_iconst (v := (-1)) K dX2_sign_25 (by decide) ?_
        refine g_goto (tgt := 38) K dX2_sign_26 (by decide) ?_
        obtain rfl := Option.some.inj h
        exact hret _ _ _ _ dX2_sign_38 rfl ⟨rfl, rfl⟩
      · have h := hf9 qh; clear ht9 hf9
        refine g_aload_n K dX2_sign_14 rfl 0 rfl ?_
        refine hg_5 (v := (o 5)) K hin_X2 (u_127) rfl dX2_sign_15 ?_
        refine g_aload_n K dX2_sign_18 rfl 0 rfl ?_
        refine hg_4 (v := (o 4)) K hin_X2 (u_126) rfl dX2_sign_19 ?_
        obtain ⟨ht9, hf9⟩ := gi_br h; clear h
        refine g_icmp_lt (tgt := 29) K dX2_sign_22 (by decide) (fun qh => ?_) (fun qh => ?_)
        · have h := ht9 qh; clear ht9 hf9
          refine g_aload_n K dX2_sign_29 rfl 0 rfl ?_
          refine hg_3 K hin_X2 (u_125) dX2_sign_30 ?_
          refine g_aload_n K dX2_sign_33 rfl 0 rfl ?_
          refine hg_5 (v := (o 5)) K hin_X2 (u_127) rfl dX2_sign_34 ?_
          obtain ⟨b_1, h⟩ := gi_none h
          refine g_cald (f := (A 3)) K 1 rfl (ginb_in b_1) dX2_sign_37 ?_
          obtain rfl := Option.some.inj h
          exact hret _ _ _ _ dX2_sign_38 rfl ⟨rfl, rfl⟩
        · have h := hf9 qh; clear ht9 hf9
          refine g_iconst (v := (-1)) K dX2_sign_25 (by decide) ?_
          refine g_goto (tgt := 38) K dX2_sign_26 (by decide) ?_
          obtain rfl := Option.some.inj h
          exact hret _ _ _ _ dX2_sign_38 rfl ⟨rfl, rfl⟩

set_option maxRecDepth 100000 in
theorem ctX2_sign {E : gE} {hb tx N : Nat} {rr : Nat → Nat} (o : Nat → Int32) (A : Nat → Nat → Int32) {res : Int32} (h : pX2_sign N (A 3) (o 4) (o 5) (o 6) = some res) : gMi yX2_sign (.code yX2_sign cX2_sign 1 (some .int) :: gU) ({ frames := 4, cells := 0, slots := 0, locals := 150 } : Room) 0 0 E [.ref hb] (hw E hb tx rr N o A) (fun v w => v = res ∧ w = hw E hb tx rr N o A) := by
  refine g_met_i (by decide +kernel) (Nat.le_of_ble_eq_true rfl) (fun Γ K hn hE hRm _ hret => ?_)
  subst hE
  have hlt : ∀ i, i < 1 → i < g_n Γ := fun i q => by rw [hn]; exact q
  refine g_sub (L' := [(0, .ref hb)]) [0] rfl ?_
  exact wX2_sign K hlt hRm hret h

set_option maxHeartbeats 4000000 in
set_option maxRecDepth 100000 in
theorem wX2_take {Γ : gT} {hb tx N : Nat} {rr : Nat → Nat} {o : Nat → Int32} {A : Nat → Nat → Int32} (K : gOK Γ cX2_take gU RX2) (hlt : ∀ i, i < 2 → i < g_n Γ) (hRm : g_R Γ = ({ frames := 5, cells := 0, slots := 0, locals := 170 } : Room)) {res : Int32 × Int32 × Int32} (hret : ∀ (pc : Nat) (L : List (Nat × Value)) (v : Int32) (w : va_W), decode cX2_take pc = .ok (.ireturn, 1) → narrow .boolean (.int v) = .int v → (v = res.1 ∧ w = hw (g_E Γ) hb tx rr N (gu (gu o 5 res.2.1) 6 res.2.2) A) → gGO Γ 0 0 pc L [.int v] w) (o5 : Int32) (o6 : Int32) (x1 : Int32) (h : pX2_take N (A 3) (o 4) o5 o6 x1 = some res) : gGO Γ 0 0 0 [(0, .ref hb), (1, .int x1)] [] (hw (g_E Γ) hb tx rr N (gu (gu o 5 o5) 6 o6) A) := by
    unfold pX2_take at h
    refine g_aload_n K dX2_take_0 rfl 0 rfl ?_
    obtain ⟨z_1, hz_1, h⟩ := gi_bd h
    refine g_callVi (As := []) (bytes := cX2_sign) (maxL := 1) (ret := (some .int)) K (ctX2_sign (gu (gu o 5 o5) 6 o6) A (res := z_1) hz_1) gc_V_RX2_45_X2_sign rfl qv_X2_sign 0 rfl rfl rfl hRm rfl rfl rfl (by decide) (Nat.le_of_ble_eq_true rfl) (by decide) dX2_take_1 (fun v w hw => ?_)
    obtain ⟨hv9, rfl⟩ := hw; have hv9 := hv9.symm; subst hv9
    refine g_iload_n K dX2_take_4 rfl 1 rfl ?_
    obtain ⟨ht9, hf9⟩ := gi_br h; clear h
    refine g_icmp_eq (tgt := 16) K dX2_take_5 (by decide) (fun qh => ?_) (fun qh => ?_)
    · have h := ht9 qh; clear ht9 hf9
      refine g_aload_n K dX2_take_16 rfl 0 rfl ?_
      refine g_dup K dX2_take_17 rfl ?_
      refine hg_5 (v := o5) K hin_X2 (u_127) rfl dX2_take_18 ?_
      refine g_iconst (v := 1) K dX2_take_21 (by decide) ?_
      refine g_iadd K dX2_take_22 ?_
      refine hp_5 (w' := hw (g_E Γ) hb tx rr N (gu (gu o 5 (o5 + 1)) 6 o6) A) K hin_X2 (u_127) rfl rfl dX2_take_23 rfl ?_
      refine g_aload_n K dX2_take_26 rfl 0 rfl ?_
      refine hg_6 (v := o6) K hin_X2 (u_128) rfl dX2_take_27 ?_
      obtain ⟨ht9, hf9⟩ := gi_br h; clear h
      refine g_if_ne (tgt := 37) K dX2_take_30 (by decide) (fun qh => ?_) (fun qh => ?_)
      · have h := hf9 qh; clear ht9 hf9
        refine g_iconst (v := 0) K dX2_take_37 (by decide) ?_
        obtain rfl := Option.some.inj h
        exact hret _ _ _ _ dX2_take_38 (by decide) ⟨rfl, rfl⟩
      · have h := ht9 qh; clear ht9 hf9
        refine g_iconst (v := 1) K dX2_take_33 (by decide) ?_
        refine g_goto (tgt := 38) K dX2_take_34 (by decide) ?_
        obtain rfl := Option.some.inj h
        exact hret _ _ _ _ dX2_take_38 (by decide) ⟨rfl, rfl⟩
    · have h := hf9 qh; clear ht9 hf9
      refine g_aload_n K dX2_take_8 rfl 0 rfl ?_
      refine g_iconst (v := 1) K dX2_take_9 (by decide) ?_
      refine hp_6 (w' := hw (g_E Γ) hb tx rr N (gu (gu o 5 o5) 6 1) A) K hin_X2 (u_128) (by decide) (by decide) dX2_take_10 rfl ?_
      refine g_goto (tgt := 26) K dX2_take_13 (by decide) ?_
      refine g_aload_n K dX2_take_26 rfl 0 rfl ?_
      refine hg_6 (v := 1) K hin_X2 (u_128) rfl dX2_take_27 ?_
      refine g_if_ne (tgt := 37) K dX2_take_30 (by decide) (fun qh => ?_) (fun qh => absurd qh (by decide))
      refine g_iconst (v := 0) K dX2_take_37 (by decide) ?_
      obtain rfl := Option.some.inj h
      exact hret _ _ _ _ dX2_take_38 (by decide) ⟨rfl, rfl⟩

set_option maxRecDepth 100000 in
theorem ctX2_take {E : gE} {hb tx N : Nat} {rr : Nat → Nat} (o : Nat → Int32) (A : Nat → Nat → Int32) (x1 : Int32) {res : Int32 × Int32 × Int32} (h : pX2_take N (A 3) (o 4) (o 5) (o 6) x1 = some res) : gMi yX2_take (.code yX2_take cX2_take 2 (some .boolean) :: gU) ({ frames := 5, cells := 0, slots := 0, locals := 170 } : Room) 0 0 E [.ref hb, .int x1] (hw E hb tx rr N o A) (fun v w => v = res.1 ∧ w = hw E hb tx rr N (gu (gu o 5 res.2.1) 6 res.2.2) A) := by
  refine g_met_i (by decide +kernel) (Nat.le_of_ble_eq_true rfl) (fun Γ K hn hE hRm _ hret => ?_)
  subst hE
  have hlt : ∀ i, i < 2 → i < g_n Γ := fun i q => by rw [hn]; exact q
  refine g_ws (ws' := hw (g_E Γ) hb tx rr N (gu (gu o 5 (o 5)) 6 (o 6)) A) rfl ?_
  refine g_sub (L' := [(0, .ref hb), (1, .int x1)]) [0, 1] rfl ?_
  exact wX2_take K hlt hRm hret (o 5) (o 6) x1 h

set_option maxHeartbeats 4000000 in
set_option maxRecDepth 100000 in
theorem wX2_takeAll_s5_2 {Γ : gT} {hb tx N : Nat} {rr : Nat → Nat} {o : Nat → Int32} {A : Nat → Nat → Int32} (K : gOK Γ cX2_takeAll gU RX2) (hlt : ∀ i, i < 3 → i < g_n Γ) (hRm : g_R Γ = ({ frames := 10, cells := 0, slots := 0, locals := 400 } : Room)) {res : Int32 × Int32} (hret : ∀ (pc : Nat) (L : List (Nat × Value)) (w : va_W), decode cX2_takeAll pc = .ok (.return_, 1) → (w = hw (g_E Γ) hb tx rr N (gu (gu o 5 res.1) 6 res.2) A) → gGO Γ 0 0 pc L [] w) : ∀ (n : Nat) (o5 : Int32) (o6 : Int32) (x2 : Int32), pX2_takeAll_s5_2 N (A 3) (o 4) n o5 o6 x2 = some res → gGO Γ 0 0 2 [(0, .ref hb), (1, .ref (gK (g_E Γ) 5)), (2, .int x2)] [] (hw (g_E Γ) hb tx rr N (gu (gu o 5 o5) 6 o6) A) := by
  intro n
  induction n with
  | zero => intro _ _ _ h; cases h
  | succ n ih =>
    intro o5 o6 x2 h
    simp only [pX2_takeAll_s5_2] at h
    refine g_iload_n K dX2_takeAll_2 rfl 2 rfl ?_
    refine g_aload_n K dX2_takeAll_3 rfl 1 rfl ?_
    obtain ⟨z_1, hz_1, h⟩ := gi_bd h
    refine g_callViK (As := []) (bytes := cJ0_length_8abf5) (maxL := 1) (ret := (some .int)) K (ctJ0_length_8abf5 (ws := hw (g_E Γ) hb tx rr N (gu (gu o 5 o5) 6 o6) A) (i0 := 5) (by decide) (res := z_1) hz_1) gc_V_RX2_110_J0_length_8abf5 rfl qv_J0_length_8abf5 (by decide) hRm rfl rfl rfl (by decide) (Nat.le_of_ble_eq_true rfl) (by decide) dX2_takeAll_4 (fun v w hw => ?_)
    obtain ⟨hv9, rfl⟩ := hw; have hv9 := hv9.symm; subst hv9
    obtain ⟨ht9, hf9⟩ := gi_br h; clear h
    refine g_icmp_ge (tgt := 26) K dX2_takeAll_7 (by decide) (fun qh => ?_) (fun qh => ?_)
    · have h := ht9 qh; clear ht9 hf9
      obtain rfl := Option.some.inj h
      exact hret _ _ _ dX2_takeAll_26 rfl
    · have h := hf9 qh; clear ht9 hf9
      refine g_aload_n K dX2_takeAll_10 rfl 0 rfl ?_
      refine g_aload_n K dX2_takeAll_11 rfl 1 rfl ?_
      refine g_iload_n K dX2_takeAll_12 rfl 2 rfl ?_
      obtain ⟨z_2, hz_2, h⟩ := gi_bd h
      refine g_callViK (As := [.int x2]) (bytes := cJ0_charAt_5068e) (maxL := 2) (ret := (some .char)) K (ctJ0_charAt_5068e (ws := hw (g_E Γ) hb tx rr N (gu (gu o 5 o5) 6 o6) A) (i0 := 5) (by decide) x2 (res := z_2) hz_2) gc_V_RX2_113_J0_charAt_5068e rfl qv_J0_charAt_5068e (by decide) hRm rfl rfl rfl (by decide) (Nat.le_of_ble_eq_true rfl) (by decide) dX2_takeAll_13 (fun v w hw => ?_)
      obtain ⟨hv9, rfl⟩ := hw; have hv9 := hv9.symm; subst hv9
      obtain ⟨z_3, hz_3, h⟩ := gi_bd h
      refine g_callVi (As := [.int z_2]) (bytes := cX2_take) (maxL := 2) (ret := (some .boolean)) K (ctX2_take (gu (gu o 5 o5) 6 o6) A z_2 (res := z_3) hz_3) gc_V_RX2_74_X2_take rfl qv_X2_take 0 rfl rfl rfl hRm rfl rfl rfl (by decide) (Nat.le_of_ble_eq_true rfl) (by decide) dX2_takeAll_16 (fun v w hw => ?_)
      obtain ⟨hv9, rfl⟩ := hw; have hv9 := hv9.symm; subst hv9
      refine g_ws (ws' := hw (g_E Γ) hb tx rr N (gu (gu o 5 z_3.2.1) 6 z_3.2.2) A) rfl ?_
      refine g_pop K dX2_takeAll_19 rfl ?_
      refine g_iinc (v := (x2 + 1)) (L' := [(2, .int (x2 + 1)), (0, .ref hb), (1, .ref (gK (g_E Γ) 5))]) K dX2_takeAll_20 2 rfl rfl (hlt _ (by decide)) rfl ?_
      refine g_goto (tgt := 2) K dX2_takeAll_23 (by decide) ?_
      refine g_sub (L' := [(0, .ref hb), (1, .ref (gK (g_E Γ) 5)), (2, .int (x2 + 1))]) [1, 2, 0] rfl ?_
      exact ih z_3.2.1 z_3.2.2 (x2 + 1) h

set_option maxHeartbeats 4000000 in
set_option maxRecDepth 100000 in
theorem wX2_takeAll_s5 {Γ : gT} {hb tx N : Nat} {rr : Nat → Nat} {o : Nat → Int32} {A : Nat → Nat → Int32} (K : gOK Γ cX2_takeAll gU RX2) (hlt : ∀ i, i < 3 → i < g_n Γ) (hRm : g_R Γ = ({ frames := 10, cells := 0, slots := 0, locals := 400 } : Room)) {res : Int32 × Int32} (hret : ∀ (pc : Nat) (L : List (Nat × Value)) (w : va_W), decode cX2_takeAll pc = .ok (.return_, 1) → (w = hw (g_E Γ) hb tx rr N (gu (gu o 5 res.1) 6 res.2) A) → gGO Γ 0 0 pc L [] w) (o5 : Int32) (o6 : Int32) (h : pX2_takeAll_s5 N (A 3) (o 4) o5 o6 = some res) : gGO Γ 0 0 0 [(0, .ref hb), (1, .ref (gK (g_E Γ) 5))] [] (hw (g_E Γ) hb tx rr N (gu (gu o 5 o5) 6 o6) A) := by
    unfold pX2_takeAll_s5 at h
    refine g_iconst (v := 0) K dX2_takeAll_0 (by decide) ?_
    refine g_istore_n (L' := [(2, .int 0), (0, .ref hb), (1, .ref (gK (g_E Γ) 5))]) K dX2_takeAll_1 rfl (hlt _ (by decide)) rfl ?_
    refine g_sub (L' := [(0, .ref hb), (1, .ref (gK (g_E Γ) 5)), (2, .int 0)]) [1, 2, 0] rfl ?_
    exact wX2_takeAll_s5_2 K hlt hRm hret 1000 o5 o6 0 h

set_option maxRecDepth 100000 in
theorem ctX2_takeAll_s5 {E : gE} {hb tx N : Nat} {rr : Nat → Nat} (o : Nat → Int32) (A : Nat → Nat → Int32) {res : Int32 × Int32} (h : pX2_takeAll_s5 N (A 3) (o 4) (o 5) (o 6) = some res) : gMv yX2_takeAll (.code yX2_takeAll cX2_takeAll 3 none :: gU) ({ frames := 10, cells := 0, slots := 0, locals := 400 } : Room) 0 0 E [.ref hb, .ref (gK E 5)] (hw E hb tx rr N o A) (fun w => w = hw E hb tx rr N (gu (gu o 5 res.1) 6 res.2) A) := by
  refine g_met_v (by decide +kernel) (Nat.le_of_ble_eq_true rfl) (fun Γ K hn hE hRm _ hret => ?_)
  subst hE
  have hlt : ∀ i, i < 3 → i < g_n Γ := fun i q => by rw [hn]; exact q
  refine g_ws (ws' := hw (g_E Γ) hb tx rr N (gu (gu o 5 (o 5)) 6 (o 6)) A) rfl ?_
  refine g_sub (L' := [(0, .ref hb), (1, .ref (gK (g_E Γ) 5))]) [0, 1] rfl ?_
  exact wX2_takeAll_s5 K hlt hRm hret (o 5) (o 6) h

set_option maxHeartbeats 4000000 in
set_option maxRecDepth 100000 in
theorem wX2_readNumber {Γ : gT} {hb tx N : Nat} {rr : Nat → Nat} {o : Nat → Int32} {A : Nat → Nat → Int32} (K : gOK Γ cX2_readNumber gU RX2) (hlt : ∀ i, i < 3 → i < g_n Γ) (hRm : g_R Γ = ({ frames := 5, cells := 0, slots := 0, locals := 170 } : Room)) {res : Int32 × Int32 × Int32} (hret : ∀ (pc : Nat) (L : List (Nat × Value)) (v : Int32) (w : va_W), decode cX2_readNumber pc = .ok (.ireturn, 1) → narrow .int (.int v) = .int v → (v = res.1 ∧ w = hw (g_E Γ) hb tx rr N (gu (gu o 5 res.2.1) 6 res.2.2) A) → gGO Γ 0 0 pc L [.int v] w) (o5 : Int32) (o6 : Int32) (h : pX2_readNumber N (A 3) (o 4) o5 o6 = some res) : gGO Γ 0 0 0 [(0, .ref hb)] [] (hw (g_E Γ) hb tx rr N (gu (gu o 5 o5) 6 o6) A) := by
    unfold pX2_readNumber at h
    refine g_aload_n K dX2_readNumber_0 rfl 0 rfl ?_
    obtain ⟨z_1, hz_1, h⟩ := gi_bd h
    refine g_callVi (As := []) (bytes := cX2_sign) (maxL := 1) (ret := (some .int)) K (ctX2_sign (gu (gu o 5 o5) 6 o6) A (res := z_1) hz_1) gc_V_RX2_45_X2_sign rfl qv_X2_sign 0 rfl rfl rfl hRm rfl rfl rfl (by decide) (Nat.le_of_ble_eq_true rfl) (by decide) dX2_readNumber_1 (fun v w hw => ?_)
    obtain ⟨hv9, rfl⟩ := hw; have hv9 := hv9.symm; subst hv9
    refine g_istore_n (L' := [(1, .int z_1), (0, .ref hb)]) K dX2_readNumber_4 rfl (hlt _ (by decide)) rfl ?_
    refine g_iload_n K dX2_readNumber_5 rfl 0 rfl ?_
    refine g_bipush (v := 48) K dX2_readNumber_6 (by decide) ?_
    obtain ⟨ht9, hf9⟩ := gi_br h; clear h
    refine g_icmp_lt (tgt := 17) K dX2_readNumber_8 (by decide) (fun qh => ?_) (fun qh => ?_)
    · have h := ht9 qh; clear ht9 hf9
      refine g_aload_n K dX2_readNumber_17 rfl 1 rfl ?_
      refine g_iconst (v := 1) K dX2_readNumber_18 (by decide) ?_
      refine hp_6 (w' := hw (g_E Γ) hb tx rr N (gu (gu o 5 o5) 6 1) A) K hin_X2 (u_128) (by decide) (by decide) dX2_readNumber_19 rfl ?_
      refine g_iconst (v := 0) K dX2_readNumber_22 (by decide) ?_
      obtain rfl := Option.some.inj h
      exact hret _ _ _ _ dX2_readNumber_23 rfl ⟨rfl, rfl⟩
    · have h := hf9 qh; clear ht9 hf9
      refine g_iload_n K dX2_readNumber_11 rfl 0 rfl ?_
      refine g_bipush (v := 57) K dX2_readNumber_12 (by decide) ?_
      obtain ⟨ht9, hf9⟩ := gi_br h; clear h
      refine g_icmp_le (tgt := 24) K dX2_readNumber_14 (by decide) (fun qh => ?_) (fun qh => ?_)
      · have h := ht9 qh; clear ht9 hf9
        refine g_aload_n K dX2_readNumber_24 rfl 1 rfl ?_
        refine g_dup K dX2_readNumber_25 rfl ?_
        refine hg_5 (v := o5) K hin_X2 (u_127) rfl dX2_readNumber_26 ?_
        refine g_iconst (v := 1) K dX2_readNumber_29 (by decide) ?_
        refine g_iadd K dX2_readNumber_30 ?_
        refine hp_5 (w' := hw (g_E Γ) hb tx rr N (gu (gu o 5 (o5 + 1)) 6 o6) A) K hin_X2 (u_127) rfl rfl dX2_readNumber_31 rfl ?_
        refine g_aload_n K dX2_readNumber_34 rfl 1 rfl ?_
        obtain ⟨z_2, hz_2, h⟩ := gi_bd h
        refine g_callVi (As := []) (bytes := cX2_sign) (maxL := 1) (ret := (some .int)) K (ctX2_sign (gu (gu o 5 (o5 + 1)) 6 o6) A (res := z_2) hz_2) gc_V_RX2_45_X2_sign rfl qv_X2_sign 0 rfl rfl rfl hRm rfl rfl rfl (by decide) (Nat.le_of_ble_eq_true rfl) (by decide) dX2_readNumber_35 (fun v w hw => ?_)
        obtain ⟨hv9, rfl⟩ := hw; have hv9 := hv9.symm; subst hv9
        refine g_istore_n (L' := [(2, .int z_2), (1, .int z_1), (0, .ref hb)]) K dX2_readNumber_38 rfl (hlt _ (by decide)) rfl ?_
        refine g_iload_n K dX2_readNumber_39 rfl 1 rfl ?_
        refine g_bipush (v := 48) K dX2_readNumber_40 (by decide) ?_
        obtain ⟨ht9, hf9⟩ := gi_br h; clear h
        refine g_icmp_eq (tgt := 57) K dX2_readNumber_42 (by decide) (fun qh => ?_) (fun qh => ?_)
        · have h := ht9 qh; clear ht9 hf9
          refine g_iload_n K dX2_readNumber_57 rfl 1 rfl ?_
          refine g_bipush (v := 48) K dX2_readNumber_58 (by decide) ?_
          refine g_isub K dX2_readNumber_60 ?_
          obtain rfl := Option.some.inj h
          exact hret _ _ _ _ dX2_readNumber_61 rfl ⟨rfl, rfl⟩
        · have h := hf9 qh; clear ht9 hf9
          refine g_iload_n K dX2_readNumber_45 rfl 0 rfl ?_
          refine g_bipush (v := 48) K dX2_readNumber_46 (by decide) ?_
          obtain ⟨ht9, hf9⟩ := gi_br h; clear h
          refine g_icmp_lt (tgt := 57) K dX2_readNumber_48 (by decide) (fun qh => ?_) (fun qh => ?_)
          · have h := ht9 qh; clear ht9 hf9
            refine g_iload_n K dX2_readNumber_57 rfl 1 rfl ?_
            refine g_bipush (v := 48) K dX2_readNumber_58 (by decide) ?_
            refine g_isub K dX2_readNumber_60 ?_
            obtain rfl := Option.some.inj h
            exact hret _ _ _ _ dX2_readNumber_61 rfl ⟨rfl, rfl⟩
          · have h := hf9 qh; clear ht9 hf9
            refine g_iload_n K dX2_readNumber_51 rfl 0 rfl ?_
            refine g_bipush (v := 57) K dX2_readNumber_52 (by decide) ?_
            obtain ⟨ht9, hf9⟩ := gi_br h; clear h
            refine g_icmp_le (tgt := 62) K dX2_readNumber_54 (by decide) (fun qh => ?_) (fun qh => ?_)
            · have h := ht9 qh; clear ht9 hf9
              refine g_aload_n K dX2_readNumber_62 rfl 2 rfl ?_
              refine g_dup K dX2_readNumber_63 rfl ?_
              refine hg_5 (v := (o5 + 1)) K hin_X2 (u_127) rfl dX2_readNumber_64 ?_
              refine g_iconst (v := 1) K dX2_readNumber_67 (by decide) ?_
              refine g_iadd K dX2_readNumber_68 ?_
              refine hp_5 (w' := hw (g_E Γ) hb tx rr N (gu (gu o 5 ((o5 + 1) + 1)) 6 o6) A) K hin_X2 (u_127) rfl rfl dX2_readNumber_69 rfl ?_
              refine g_bipush (v := 10) K dX2_readNumber_72 (by decide) ?_
              refine g_iload_n K dX2_readNumber_74 rfl 1 rfl ?_
              refine g_bipush (v := 48) K dX2_readNumber_75 (by decide) ?_
              refine g_isub K dX2_readNumber_77 ?_
              refine g_imul K dX2_readNumber_78 ?_
              refine g_iload_n K dX2_readNumber_79 rfl 0 rfl ?_
              refine g_iadd K dX2_readNumber_80 ?_
              refine g_bipush (v := 48) K dX2_readNumber_81 (by decide) ?_
              refine g_isub K dX2_readNumber_83 ?_
              obtain rfl := Option.some.inj h
              exact hret _ _ _ _ dX2_readNumber_84 rfl ⟨rfl, rfl⟩
            · have h := hf9 qh; clear ht9 hf9
              refine g_iload_n K dX2_readNumber_57 rfl 1 rfl ?_
              refine g_bipush (v := 48) K dX2_readNumber_58 (by decide) ?_
              refine g_isub K dX2_readNumber_60 ?_
              obtain rfl := Option.some.inj h
              exact hret _ _ _ _ dX2_readNumber_61 rfl ⟨rfl, rfl⟩
      · have h := hf9 qh; clear ht9 hf9
        refine g_aload_n K dX2_readNumber_17 rfl 1 rfl ?_
        refine g_iconst (v := 1) K dX2_readNumber_18 (by decide) ?_
        refine hp_6 (w' := hw (g_E Γ) hb tx rr N (gu (gu o 5 o5) 6 1) A) K hin_X2 (u_128) (by decide) (by decide) dX2_readNumber_19 rfl ?_
        refine g_iconst (v := 0) K dX2_readNumber_22 (by decide) ?_
        obtain rfl := Option.some.inj h
        exact hret _ _ _ _ dX2_readNumber_23 rfl ⟨rfl, rfl⟩

set_option maxRecDepth 100000 in
theorem ctX2_readNumber {E : gE} {hb tx N : Nat} {rr : Nat → Nat} (o : Nat → Int32) (A : Nat → Nat → Int32) {res : Int32 × Int32 × Int32} (h : pX2_readNumber N (A 3) (o 4) (o 5) (o 6) = some res) : gMi yX2_readNumber (.code yX2_readNumber cX2_readNumber 3 (some .int) :: gU) ({ frames := 5, cells := 0, slots := 0, locals := 170 } : Room) 0 0 E [.ref hb] (hw E hb tx rr N o A) (fun v w => v = res.1 ∧ w = hw E hb tx rr N (gu (gu o 5 res.2.1) 6 res.2.2) A) := by
  refine g_met_i (by decide +kernel) (Nat.le_of_ble_eq_true rfl) (fun Γ K hn hE hRm _ hret => ?_)
  subst hE
  have hlt : ∀ i, i < 3 → i < g_n Γ := fun i q => by rw [hn]; exact q
  refine g_ws (ws' := hw (g_E Γ) hb tx rr N (gu (gu o 5 (o 5)) 6 (o 6)) A) rfl ?_
  refine g_sub (L' := [(0, .ref hb)]) [0] rfl ?_
  exact wX2_readNumber K hlt hRm hret (o 5) (o 6) h

set_option maxHeartbeats 4000000 in
set_option maxRecDepth 100000 in
theorem wX2_readShare_s5 {Γ : gT} {hb tx N : Nat} {rr : Nat → Nat} {o : Nat → Int32} {A : Nat → Nat → Int32} (K : gOK Γ cX2_readShare gU RX2) (hlt : ∀ i, i < 2 → i < g_n Γ) (hRm : g_R Γ = ({ frames := 11, cells := 0, slots := 0, locals := 422 } : Room)) {res : Int32 × Int32 × Int32} (hret : ∀ (pc : Nat) (L : List (Nat × Value)) (v : Int32) (w : va_W), decode cX2_readShare pc = .ok (.ireturn, 1) → narrow .int (.int v) = .int v → (v = res.1 ∧ w = hw (g_E Γ) hb tx rr N (gu (gu o 5 res.2.1) 6 res.2.2) A) → gGO Γ 0 0 pc L [.int v] w) (o5 : Int32) (o6 : Int32) (h : pX2_readShare_s5 N (A 3) (o 4) o5 o6 = some res) : gGO Γ 0 0 0 [(0, .ref hb), (1, .ref (gK (g_E Γ) 5))] [] (hw (g_E Γ) hb tx rr N (gu (gu o 5 o5) 6 o6) A) := by
    unfold pX2_readShare_s5 at h
    refine g_aload_n K dX2_readShare_0 rfl 0 rfl ?_
    refine g_aload_n K dX2_readShare_1 rfl 1 rfl ?_
    obtain ⟨z_1, hz_1, h⟩ := gi_bd h
    refine g_callVv (As := [.ref (gK (g_E Γ) 5)]) (bytes := cX2_takeAll) (maxL := 3) (ret := none) K (ctX2_takeAll_s5 (gu (gu o 5 o5) 6 o6) A (res := z_1) hz_1) gc_V_RX2_81_X2_takeAll rfl qv_X2_takeAll 0 rfl rfl rfl hRm rfl rfl rfl (by decide) (Nat.le_of_ble_eq_true rfl) (by decide) dX2_readShare_2 (fun w hw => ?_)
    subst hw
    refine g_ws (ws' := hw (g_E Γ) hb tx rr N (gu (gu o 5 z_1.1) 6 z_1.2) A) rfl ?_
    refine g_aload_n K dX2_readShare_5 rfl 0 rfl ?_
    obtain ⟨z_2, hz_2, h⟩ := gi_bd h
    refine g_callVi (As := []) (bytes := cX2_readNumber) (maxL := 3) (ret := (some .int)) K (ctX2_readNumber (gu (gu o 5 z_1.1) 6 z_1.2) A (res := z_2) hz_2) gc_V_RX2_85_X2_readNumber rfl qv_X2_readNumber 0 rfl rfl rfl hRm rfl rfl rfl (by decide) (Nat.le_of_ble_eq_true rfl) (by decide) dX2_readShare_6 (fun v w hw => ?_)
    obtain ⟨hv9, rfl⟩ := hw; have hv9 := hv9.symm; subst hv9
    refine g_ws (ws' := hw (g_E Γ) hb tx rr N (gu (gu o 5 z_2.2.1) 6 z_2.2.2) A) rfl ?_
    obtain rfl := Option.some.inj h
    exact hret _ _ _ _ dX2_readShare_9 rfl ⟨rfl, rfl⟩

set_option maxRecDepth 100000 in
theorem ctX2_readShare_s5 {E : gE} {hb tx N : Nat} {rr : Nat → Nat} (o : Nat → Int32) (A : Nat → Nat → Int32) {res : Int32 × Int32 × Int32} (h : pX2_readShare_s5 N (A 3) (o 4) (o 5) (o 6) = some res) : gMi yX2_readShare (.code yX2_readShare cX2_readShare 2 (some .int) :: gU) ({ frames := 11, cells := 0, slots := 0, locals := 422 } : Room) 0 0 E [.ref hb, .ref (gK E 5)] (hw E hb tx rr N o A) (fun v w => v = res.1 ∧ w = hw E hb tx rr N (gu (gu o 5 res.2.1) 6 res.2.2) A) := by
  refine g_met_i (by decide +kernel) (Nat.le_of_ble_eq_true rfl) (fun Γ K hn hE hRm _ hret => ?_)
  subst hE
  have hlt : ∀ i, i < 2 → i < g_n Γ := fun i q => by rw [hn]; exact q
  refine g_ws (ws' := hw (g_E Γ) hb tx rr N (gu (gu o 5 (o 5)) 6 (o 6)) A) rfl ?_
  refine g_sub (L' := [(0, .ref hb), (1, .ref (gK (g_E Γ) 5))]) [0, 1] rfl ?_
  exact wX2_readShare_s5 K hlt hRm hret (o 5) (o 6) h

set_option maxHeartbeats 4000000 in
set_option maxRecDepth 100000 in
theorem wX2_takeAll_s4_2 {Γ : gT} {hb tx N : Nat} {rr : Nat → Nat} {o : Nat → Int32} {A : Nat → Nat → Int32} (K : gOK Γ cX2_takeAll gU RX2) (hlt : ∀ i, i < 3 → i < g_n Γ) (hRm : g_R Γ = ({ frames := 10, cells := 0, slots := 0, locals := 400 } : Room)) {res : Int32 × Int32} (hret : ∀ (pc : Nat) (L : List (Nat × Value)) (w : va_W), decode cX2_takeAll pc = .ok (.return_, 1) → (w = hw (g_E Γ) hb tx rr N (gu (gu o 5 res.1) 6 res.2) A) → gGO Γ 0 0 pc L [] w) : ∀ (n : Nat) (o5 : Int32) (o6 : Int32) (x2 : Int32), pX2_takeAll_s4_2 N (A 3) (o 4) n o5 o6 x2 = some res → gGO Γ 0 0 2 [(0, .ref hb), (1, .ref (gK (g_E Γ) 4)), (2, .int x2)] [] (hw (g_E Γ) hb tx rr N (gu (gu o 5 o5) 6 o6) A) := by
  intro n
  induction n with
  | zero => intro _ _ _ h; cases h
  | succ n ih =>
    intro o5 o6 x2 h
    simp only [pX2_takeAll_s4_2] at h
    refine g_iload_n K dX2_takeAll_2 rfl 2 rfl ?_
    refine g_aload_n K dX2_takeAll_3 rfl 1 rfl ?_
    obtain ⟨z_1, hz_1, h⟩ := gi_bd h
    refine g_callViK (As := []) (bytes := cJ0_length_8abf5) (maxL := 1) (ret := (some .int)) K (ctJ0_length_8abf5 (ws := hw (g_E Γ) hb tx rr N (gu (gu o 5 o5) 6 o6) A) (i0 := 4) (by decide) (res := z_1) hz_1) gc_V_RX2_110_J0_length_8abf5 rfl qv_J0_length_8abf5 (by decide) hRm rfl rfl rfl (by decide) (Nat.le_of_ble_eq_true rfl) (by decide) dX2_takeAll_4 (fun v w hw => ?_)
    obtain ⟨hv9, rfl⟩ := hw; have hv9 := hv9.symm; subst hv9
    obtain ⟨ht9, hf9⟩ := gi_br h; clear h
    refine g_icmp_ge (tgt := 26) K dX2_takeAll_7 (by decide) (fun qh => ?_) (fun qh => ?_)
    · have h := ht9 qh; clear ht9 hf9
      obtain rfl := Option.some.inj h
      exact hret _ _ _ dX2_takeAll_26 rfl
    · have h := hf9 qh; clear ht9 hf9
      refine g_aload_n K dX2_takeAll_10 rfl 0 rfl ?_
      refine g_aload_n K dX2_takeAll_11 rfl 1 rfl ?_
      refine g_iload_n K dX2_takeAll_12 rfl 2 rfl ?_
      obtain ⟨z_2, hz_2, h⟩ := gi_bd h
      refine g_callViK (As := [.int x2]) (bytes := cJ0_charAt_5068e) (maxL := 2) (ret := (some .char)) K (ctJ0_charAt_5068e (ws := hw (g_E Γ) hb tx rr N (gu (gu o 5 o5) 6 o6) A) (i0 := 4) (by decide) x2 (res := z_2) hz_2) gc_V_RX2_113_J0_charAt_5068e rfl qv_J0_charAt_5068e (by decide) hRm rfl rfl rfl (by decide) (Nat.le_of_ble_eq_true rfl) (by decide) dX2_takeAll_13 (fun v w hw => ?_)
      obtain ⟨hv9, rfl⟩ := hw; have hv9 := hv9.symm; subst hv9
      obtain ⟨z_3, hz_3, h⟩ := gi_bd h
      refine g_callVi (As := [.int z_2]) (bytes := cX2_take) (maxL := 2) (ret := (some .boolean)) K (ctX2_take (gu (gu o 5 o5) 6 o6) A z_2 (res := z_3) hz_3) gc_V_RX2_74_X2_take rfl qv_X2_take 0 rfl rfl rfl hRm rfl rfl rfl (by decide) (Nat.le_of_ble_eq_true rfl) (by decide) dX2_takeAll_16 (fun v w hw => ?_)
      obtain ⟨hv9, rfl⟩ := hw; have hv9 := hv9.symm; subst hv9
      refine g_ws (ws' := hw (g_E Γ) hb tx rr N (gu (gu o 5 z_3.2.1) 6 z_3.2.2) A) rfl ?_
      refine g_pop K dX2_takeAll_19 rfl ?_
      refine g_iinc (v := (x2 + 1)) (L' := [(2, .int (x2 + 1)), (0, .ref hb), (1, .ref (gK (g_E Γ) 4))]) K dX2_takeAll_20 2 rfl rfl (hlt _ (by decide)) rfl ?_
      refine g_goto (tgt := 2) K dX2_takeAll_23 (by decide) ?_
      refine g_sub (L' := [(0, .ref hb), (1, .ref (gK (g_E Γ) 4)), (2, .int (x2 + 1))]) [1, 2, 0] rfl ?_
      exact ih z_3.2.1 z_3.2.2 (x2 + 1) h

set_option maxHeartbeats 4000000 in
set_option maxRecDepth 100000 in
theorem wX2_takeAll_s4 {Γ : gT} {hb tx N : Nat} {rr : Nat → Nat} {o : Nat → Int32} {A : Nat → Nat → Int32} (K : gOK Γ cX2_takeAll gU RX2) (hlt : ∀ i, i < 3 → i < g_n Γ) (hRm : g_R Γ = ({ frames := 10, cells := 0, slots := 0, locals := 400 } : Room)) {res : Int32 × Int32} (hret : ∀ (pc : Nat) (L : List (Nat × Value)) (w : va_W), decode cX2_takeAll pc = .ok (.return_, 1) → (w = hw (g_E Γ) hb tx rr N (gu (gu o 5 res.1) 6 res.2) A) → gGO Γ 0 0 pc L [] w) (o5 : Int32) (o6 : Int32) (h : pX2_takeAll_s4 N (A 3) (o 4) o5 o6 = some res) : gGO Γ 0 0 0 [(0, .ref hb), (1, .ref (gK (g_E Γ) 4))] [] (hw (g_E Γ) hb tx rr N (gu (gu o 5 o5) 6 o6) A) := by
    unfold pX2_takeAll_s4 at h
    refine g_iconst (v := 0) K dX2_takeAll_0 (by decide) ?_
    refine g_istore_n (L' := [(2, .int 0), (0, .ref hb), (1, .ref (gK (g_E Γ) 4))]) K dX2_takeAll_1 rfl (hlt _ (by decide)) rfl ?_
    refine g_sub (L' := [(0, .ref hb), (1, .ref (gK (g_E Γ) 4)), (2, .int 0)]) [1, 2, 0] rfl ?_
    exact wX2_takeAll_s4_2 K hlt hRm hret 1000 o5 o6 0 h

set_option maxRecDepth 100000 in
theorem ctX2_takeAll_s4 {E : gE} {hb tx N : Nat} {rr : Nat → Nat} (o : Nat → Int32) (A : Nat → Nat → Int32) {res : Int32 × Int32} (h : pX2_takeAll_s4 N (A 3) (o 4) (o 5) (o 6) = some res) : gMv yX2_takeAll (.code yX2_takeAll cX2_takeAll 3 none :: gU) ({ frames := 10, cells := 0, slots := 0, locals := 400 } : Room) 0 0 E [.ref hb, .ref (gK E 4)] (hw E hb tx rr N o A) (fun w => w = hw E hb tx rr N (gu (gu o 5 res.1) 6 res.2) A) := by
  refine g_met_v (by decide +kernel) (Nat.le_of_ble_eq_true rfl) (fun Γ K hn hE hRm _ hret => ?_)
  subst hE
  have hlt : ∀ i, i < 3 → i < g_n Γ := fun i q => by rw [hn]; exact q
  refine g_ws (ws' := hw (g_E Γ) hb tx rr N (gu (gu o 5 (o 5)) 6 (o 6)) A) rfl ?_
  refine g_sub (L' := [(0, .ref hb), (1, .ref (gK (g_E Γ) 4))]) [0, 1] rfl ?_
  exact wX2_takeAll_s4 K hlt hRm hret (o 5) (o 6) h

set_option maxHeartbeats 4000000 in
set_option maxRecDepth 100000 in
theorem wX2_readShare_s4 {Γ : gT} {hb tx N : Nat} {rr : Nat → Nat} {o : Nat → Int32} {A : Nat → Nat → Int32} (K : gOK Γ cX2_readShare gU RX2) (hlt : ∀ i, i < 2 → i < g_n Γ) (hRm : g_R Γ = ({ frames := 11, cells := 0, slots := 0, locals := 422 } : Room)) {res : Int32 × Int32 × Int32} (hret : ∀ (pc : Nat) (L : List (Nat × Value)) (v : Int32) (w : va_W), decode cX2_readShare pc = .ok (.ireturn, 1) → narrow .int (.int v) = .int v → (v = res.1 ∧ w = hw (g_E Γ) hb tx rr N (gu (gu o 5 res.2.1) 6 res.2.2) A) → gGO Γ 0 0 pc L [.int v] w) (o5 : Int32) (o6 : Int32) (h : pX2_readShare_s4 N (A 3) (o 4) o5 o6 = some res) : gGO Γ 0 0 0 [(0, .ref hb), (1, .ref (gK (g_E Γ) 4))] [] (hw (g_E Γ) hb tx rr N (gu (gu o 5 o5) 6 o6) A) := by
    unfold pX2_readShare_s4 at h
    refine g_aload_n K dX2_readShare_0 rfl 0 rfl ?_
    refine g_aload_n K dX2_readShare_1 rfl 1 rfl ?_
    obtain ⟨z_1, hz_1, h⟩ := gi_bd h
    refine g_callVv (As := [.ref (gK (g_E Γ) 4)]) (bytes := cX2_takeAll) (maxL := 3) (ret := none) K (ctX2_takeAll_s4 (gu (gu o 5 o5) 6 o6) A (res := z_1) hz_1) gc_V_RX2_81_X2_takeAll rfl qv_X2_takeAll 0 rfl rfl rfl hRm rfl rfl rfl (by decide) (Nat.le_of_ble_eq_true rfl) (by decide) dX2_readShare_2 (fun w hw => ?_)
    subst hw
    refine g_ws (ws' := hw (g_E Γ) hb tx rr N (gu (gu o 5 z_1.1) 6 z_1.2) A) rfl ?_
    refine g_aload_n K dX2_readShare_5 rfl 0 rfl ?_
    obtain ⟨z_2, hz_2, h⟩ := gi_bd h
    refine g_callVi (As := []) (bytes := cX2_readNumber) (maxL := 3) (ret := (some .int)) K (ctX2_readNumber (gu (gu o 5 z_1.1) 6 z_1.2) A (res := z_2) hz_2) gc_V_RX2_85_X2_readNumber rfl qv_X2_readNumber 0 rfl rfl rfl hRm rfl rfl rfl (by decide) (Nat.le_of_ble_eq_true rfl) (by decide) dX2_readShare_6 (fun v w hw => ?_)
    obtain ⟨hv9, rfl⟩ := hw; have hv9 := hv9.symm; subst hv9
    refine g_ws (ws' := hw (g_E Γ) hb tx rr N (gu (gu o 5 z_2.2.1) 6 z_2.2.2) A) rfl ?_
    obtain rfl := Option.some.inj h
    exact hret _ _ _ _ dX2_readShare_9 rfl ⟨rfl, rfl⟩

set_option maxRecDepth 100000 in
theorem ctX2_readShare_s4 {E : gE} {hb tx N : Nat} {rr : Nat → Nat} (o : Nat → Int32) (A : Nat → Nat → Int32) {res : Int32 × Int32 × Int32} (h : pX2_readShare_s4 N (A 3) (o 4) (o 5) (o 6) = some res) : gMi yX2_readShare (.code yX2_readShare cX2_readShare 2 (some .int) :: gU) ({ frames := 11, cells := 0, slots := 0, locals := 422 } : Room) 0 0 E [.ref hb, .ref (gK E 4)] (hw E hb tx rr N o A) (fun v w => v = res.1 ∧ w = hw E hb tx rr N (gu (gu o 5 res.2.1) 6 res.2.2) A) := by
  refine g_met_i (by decide +kernel) (Nat.le_of_ble_eq_true rfl) (fun Γ K hn hE hRm _ hret => ?_)
  subst hE
  have hlt : ∀ i, i < 2 → i < g_n Γ := fun i q => by rw [hn]; exact q
  refine g_ws (ws' := hw (g_E Γ) hb tx rr N (gu (gu o 5 (o 5)) 6 (o 6)) A) rfl ?_
  refine g_sub (L' := [(0, .ref hb), (1, .ref (gK (g_E Γ) 4))]) [0, 1] rfl ?_
  exact wX2_readShare_s4 K hlt hRm hret (o 5) (o 6) h

set_option maxHeartbeats 4000000 in
set_option maxRecDepth 100000 in
theorem wX2_takeAll_s3_2 {Γ : gT} {hb tx N : Nat} {rr : Nat → Nat} {o : Nat → Int32} {A : Nat → Nat → Int32} (K : gOK Γ cX2_takeAll gU RX2) (hlt : ∀ i, i < 3 → i < g_n Γ) (hRm : g_R Γ = ({ frames := 10, cells := 0, slots := 0, locals := 400 } : Room)) {res : Int32 × Int32} (hret : ∀ (pc : Nat) (L : List (Nat × Value)) (w : va_W), decode cX2_takeAll pc = .ok (.return_, 1) → (w = hw (g_E Γ) hb tx rr N (gu (gu o 5 res.1) 6 res.2) A) → gGO Γ 0 0 pc L [] w) : ∀ (n : Nat) (o5 : Int32) (o6 : Int32) (x2 : Int32), pX2_takeAll_s3_2 N (A 3) (o 4) n o5 o6 x2 = some res → gGO Γ 0 0 2 [(0, .ref hb), (1, .ref (gK (g_E Γ) 3)), (2, .int x2)] [] (hw (g_E Γ) hb tx rr N (gu (gu o 5 o5) 6 o6) A) := by
  intro n
  induction n with
  | zero => intro _ _ _ h; cases h
  | succ n ih =>
    intro o5 o6 x2 h
    simp only [pX2_takeAll_s3_2] at h
    refine g_iload_n K dX2_takeAll_2 rfl 2 rfl ?_
    refine g_aload_n K dX2_takeAll_3 rfl 1 rfl ?_
    obtain ⟨z_1, hz_1, h⟩ := gi_bd h
    refine g_callViK (As := []) (bytes := cJ0_length_8abf5) (maxL := 1) (ret := (some .int)) K (ctJ0_length_8abf5 (ws := hw (g_E Γ) hb tx rr N (gu (gu o 5 o5) 6 o6) A) (i0 := 3) (by decide) (res := z_1) hz_1) gc_V_RX2_110_J0_length_8abf5 rfl qv_J0_length_8abf5 (by decide) hRm rfl rfl rfl (by decide) (Nat.le_of_ble_eq_true rfl) (by decide) dX2_takeAll_4 (fun v w hw => ?_)
    obtain ⟨hv9, rfl⟩ := hw; have hv9 := hv9.symm; subst hv9
    obtain ⟨ht9, hf9⟩ := gi_br h; clear h
    refine g_icmp_ge (tgt := 26) K dX2_takeAll_7 (by decide) (fun qh => ?_) (fun qh => ?_)
    · have h := ht9 qh; clear ht9 hf9
      obtain rfl := Option.some.inj h
      exact hret _ _ _ dX2_takeAll_26 rfl
    · have h := hf9 qh; clear ht9 hf9
      refine g_aload_n K dX2_takeAll_10 rfl 0 rfl ?_
      refine g_aload_n K dX2_takeAll_11 rfl 1 rfl ?_
      refine g_iload_n K dX2_takeAll_12 rfl 2 rfl ?_
      obtain ⟨z_2, hz_2, h⟩ := gi_bd h
      refine g_callViK (As := [.int x2]) (bytes := cJ0_charAt_5068e) (maxL := 2) (ret := (some .char)) K (ctJ0_charAt_5068e (ws := hw (g_E Γ) hb tx rr N (gu (gu o 5 o5) 6 o6) A) (i0 := 3) (by decide) x2 (res := z_2) hz_2) gc_V_RX2_113_J0_charAt_5068e rfl qv_J0_charAt_5068e (by decide) hRm rfl rfl rfl (by decide) (Nat.le_of_ble_eq_true rfl) (by decide) dX2_takeAll_13 (fun v w hw => ?_)
      obtain ⟨hv9, rfl⟩ := hw; have hv9 := hv9.symm; subst hv9
      obtain ⟨z_3, hz_3, h⟩ := gi_bd h
      refine g_callVi (As := [.int z_2]) (bytes := cX2_take) (maxL := 2) (ret := (some .boolean)) K (ctX2_take (gu (gu o 5 o5) 6 o6) A z_2 (res := z_3) hz_3) gc_V_RX2_74_X2_take rfl qv_X2_take 0 rfl rfl rfl hRm rfl rfl rfl (by decide) (Nat.le_of_ble_eq_true rfl) (by decide) dX2_takeAll_16 (fun v w hw => ?_)
      obtain ⟨hv9, rfl⟩ := hw; have hv9 := hv9.symm; subst hv9
      refine g_ws (ws' := hw (g_E Γ) hb tx rr N (gu (gu o 5 z_3.2.1) 6 z_3.2.2) A) rfl ?_
      refine g_pop K dX2_takeAll_19 rfl ?_
      refine g_iinc (v := (x2 + 1)) (L' := [(2, .int (x2 + 1)), (0, .ref hb), (1, .ref (gK (g_E Γ) 3))]) K dX2_takeAll_20 2 rfl rfl (hlt _ (by decide)) rfl ?_
      refine g_goto (tgt := 2) K dX2_takeAll_23 (by decide) ?_
      refine g_sub (L' := [(0, .ref hb), (1, .ref (gK (g_E Γ) 3)), (2, .int (x2 + 1))]) [1, 2, 0] rfl ?_
      exact ih z_3.2.1 z_3.2.2 (x2 + 1) h

set_option maxHeartbeats 4000000 in
set_option maxRecDepth 100000 in
theorem wX2_takeAll_s3 {Γ : gT} {hb tx N : Nat} {rr : Nat → Nat} {o : Nat → Int32} {A : Nat → Nat → Int32} (K : gOK Γ cX2_takeAll gU RX2) (hlt : ∀ i, i < 3 → i < g_n Γ) (hRm : g_R Γ = ({ frames := 10, cells := 0, slots := 0, locals := 400 } : Room)) {res : Int32 × Int32} (hret : ∀ (pc : Nat) (L : List (Nat × Value)) (w : va_W), decode cX2_takeAll pc = .ok (.return_, 1) → (w = hw (g_E Γ) hb tx rr N (gu (gu o 5 res.1) 6 res.2) A) → gGO Γ 0 0 pc L [] w) (o5 : Int32) (o6 : Int32) (h : pX2_takeAll_s3 N (A 3) (o 4) o5 o6 = some res) : gGO Γ 0 0 0 [(0, .ref hb), (1, .ref (gK (g_E Γ) 3))] [] (hw (g_E Γ) hb tx rr N (gu (gu o 5 o5) 6 o6) A) := by
    unfold pX2_takeAll_s3 at h
    refine g_iconst (v := 0) K dX2_takeAll_0 (by decide) ?_
    refine g_istore_n (L' := [(2, .int 0), (0, .ref hb), (1, .ref (gK (g_E Γ) 3))]) K dX2_takeAll_1 rfl (hlt _ (by decide)) rfl ?_
    refine g_sub (L' := [(0, .ref hb), (1, .ref (gK (g_E Γ) 3)), (2, .int 0)]) [1, 2, 0] rfl ?_
    exact wX2_takeAll_s3_2 K hlt hRm hret 1000 o5 o6 0 h

set_option maxRecDepth 100000 in
theorem ctX2_takeAll_s3 {E : gE} {hb tx N : Nat} {rr : Nat → Nat} (o : Nat → Int32) (A : Nat → Nat → Int32) {res : Int32 × Int32} (h : pX2_takeAll_s3 N (A 3) (o 4) (o 5) (o 6) = some res) : gMv yX2_takeAll (.code yX2_takeAll cX2_takeAll 3 none :: gU) ({ frames := 10, cells := 0, slots := 0, locals := 400 } : Room) 0 0 E [.ref hb, .ref (gK E 3)] (hw E hb tx rr N o A) (fun w => w = hw E hb tx rr N (gu (gu o 5 res.1) 6 res.2) A) := by
  refine g_met_v (by decide +kernel) (Nat.le_of_ble_eq_true rfl) (fun Γ K hn hE hRm _ hret => ?_)
  subst hE
  have hlt : ∀ i, i < 3 → i < g_n Γ := fun i q => by rw [hn]; exact q
  refine g_ws (ws' := hw (g_E Γ) hb tx rr N (gu (gu o 5 (o 5)) 6 (o 6)) A) rfl ?_
  refine g_sub (L' := [(0, .ref hb), (1, .ref (gK (g_E Γ) 3))]) [0, 1] rfl ?_
  exact wX2_takeAll_s3 K hlt hRm hret (o 5) (o 6) h

set_option maxHeartbeats 4000000 in
set_option maxRecDepth 100000 in
theorem wX2_readShare_s3 {Γ : gT} {hb tx N : Nat} {rr : Nat → Nat} {o : Nat → Int32} {A : Nat → Nat → Int32} (K : gOK Γ cX2_readShare gU RX2) (hlt : ∀ i, i < 2 → i < g_n Γ) (hRm : g_R Γ = ({ frames := 11, cells := 0, slots := 0, locals := 422 } : Room)) {res : Int32 × Int32 × Int32} (hret : ∀ (pc : Nat) (L : List (Nat × Value)) (v : Int32) (w : va_W), decode cX2_readShare pc = .ok (.ireturn, 1) → narrow .int (.int v) = .int v → (v = res.1 ∧ w = hw (g_E Γ) hb tx rr N (gu (gu o 5 res.2.1) 6 res.2.2) A) → gGO Γ 0 0 pc L [.int v] w) (o5 : Int32) (o6 : Int32) (h : pX2_readShare_s3 N (A 3) (o 4) o5 o6 = some res) : gGO Γ 0 0 0 [(0, .ref hb), (1, .ref (gK (g_E Γ) 3))] [] (hw (g_E Γ) hb tx rr N (gu (gu o 5 o5) 6 o6) A) := by
    unfold pX2_readShare_s3 at h
    refine g_aload_n K dX2_readShare_0 rfl 0 rfl ?_
    refine g_aload_n K dX2_readShare_1 rfl 1 rfl ?_
    obtain ⟨z_1, hz_1, h⟩ := gi_bd h
    refine g_callVv (As := [.ref (gK (g_E Γ) 3)]) (bytes := cX2_takeAll) (maxL := 3) (ret := none) K (ctX2_takeAll_s3 (gu (gu o 5 o5) 6 o6) A (res := z_1) hz_1) gc_V_RX2_81_X2_takeAll rfl qv_X2_takeAll 0 rfl rfl rfl hRm rfl rfl rfl (by decide) (Nat.le_of_ble_eq_true rfl) (by decide) dX2_readShare_2 (fun w hw => ?_)
    subst hw
    refine g_ws (ws' := hw (g_E Γ) hb tx rr N (gu (gu o 5 z_1.1) 6 z_1.2) A) rfl ?_
    refine g_aload_n K dX2_readShare_5 rfl 0 rfl ?_
    obtain ⟨z_2, hz_2, h⟩ := gi_bd h
    refine g_callVi (As := []) (bytes := cX2_readNumber) (maxL := 3) (ret := (some .int)) K (ctX2_readNumber (gu (gu o 5 z_1.1) 6 z_1.2) A (res := z_2) hz_2) gc_V_RX2_85_X2_readNumber rfl qv_X2_readNumber 0 rfl rfl rfl hRm rfl rfl rfl (by decide) (Nat.le_of_ble_eq_true rfl) (by decide) dX2_readShare_6 (fun v w hw => ?_)
    obtain ⟨hv9, rfl⟩ := hw; have hv9 := hv9.symm; subst hv9
    refine g_ws (ws' := hw (g_E Γ) hb tx rr N (gu (gu o 5 z_2.2.1) 6 z_2.2.2) A) rfl ?_
    obtain rfl := Option.some.inj h
    exact hret _ _ _ _ dX2_readShare_9 rfl ⟨rfl, rfl⟩

set_option maxRecDepth 100000 in
theorem ctX2_readShare_s3 {E : gE} {hb tx N : Nat} {rr : Nat → Nat} (o : Nat → Int32) (A : Nat → Nat → Int32) {res : Int32 × Int32 × Int32} (h : pX2_readShare_s3 N (A 3) (o 4) (o 5) (o 6) = some res) : gMi yX2_readShare (.code yX2_readShare cX2_readShare 2 (some .int) :: gU) ({ frames := 11, cells := 0, slots := 0, locals := 422 } : Room) 0 0 E [.ref hb, .ref (gK E 3)] (hw E hb tx rr N o A) (fun v w => v = res.1 ∧ w = hw E hb tx rr N (gu (gu o 5 res.2.1) 6 res.2.2) A) := by
  refine g_met_i (by decide +kernel) (Nat.le_of_ble_eq_true rfl) (fun Γ K hn hE hRm _ hret => ?_)
  subst hE
  have hlt : ∀ i, i < 2 → i < g_n Γ := fun i q => by rw [hn]; exact q
  refine g_ws (ws' := hw (g_E Γ) hb tx rr N (gu (gu o 5 (o 5)) 6 (o 6)) A) rfl ?_
  refine g_sub (L' := [(0, .ref hb), (1, .ref (gK (g_E Γ) 3))]) [0, 1] rfl ?_
  exact wX2_readShare_s3 K hlt hRm hret (o 5) (o 6) h

set_option maxHeartbeats 4000000 in
set_option maxRecDepth 100000 in
theorem wX2_takeAll_s2_2 {Γ : gT} {hb tx N : Nat} {rr : Nat → Nat} {o : Nat → Int32} {A : Nat → Nat → Int32} (K : gOK Γ cX2_takeAll gU RX2) (hlt : ∀ i, i < 3 → i < g_n Γ) (hRm : g_R Γ = ({ frames := 10, cells := 0, slots := 0, locals := 400 } : Room)) {res : Int32 × Int32} (hret : ∀ (pc : Nat) (L : List (Nat × Value)) (w : va_W), decode cX2_takeAll pc = .ok (.return_, 1) → (w = hw (g_E Γ) hb tx rr N (gu (gu o 5 res.1) 6 res.2) A) → gGO Γ 0 0 pc L [] w) : ∀ (n : Nat) (o5 : Int32) (o6 : Int32) (x2 : Int32), pX2_takeAll_s2_2 N (A 3) (o 4) n o5 o6 x2 = some res → gGO Γ 0 0 2 [(0, .ref hb), (1, .ref (gK (g_E Γ) 2)), (2, .int x2)] [] (hw (g_E Γ) hb tx rr N (gu (gu o 5 o5) 6 o6) A) := by
  intro n
  induction n with
  | zero => intro _ _ _ h; cases h
  | succ n ih =>
    intro o5 o6 x2 h
    simp only [pX2_takeAll_s2_2] at h
    refine g_iload_n K dX2_takeAll_2 rfl 2 rfl ?_
    refine g_aload_n K dX2_takeAll_3 rfl 1 rfl ?_
    obtain ⟨z_1, hz_1, h⟩ := gi_bd h
    refine g_callViK (As := []) (bytes := cJ0_length_8abf5) (maxL := 1) (ret := (some .int)) K (ctJ0_length_8abf5 (ws := hw (g_E Γ) hb tx rr N (gu (gu o 5 o5) 6 o6) A) (i0 := 2) (by decide) (res := z_1) hz_1) gc_V_RX2_110_J0_length_8abf5 rfl qv_J0_length_8abf5 (by decide) hRm rfl rfl rfl (by decide) (Nat.le_of_ble_eq_true rfl) (by decide) dX2_takeAll_4 (fun v w hw => ?_)
    obtain ⟨hv9, rfl⟩ := hw; have hv9 := hv9.symm; subst hv9
    obtain ⟨ht9, hf9⟩ := gi_br h; clear h
    refine g_icmp_ge (tgt := 26) K dX2_takeAll_7 (by decide) (fun qh => ?_) (fun qh => ?_)
    · have h := ht9 qh; clear ht9 hf9
      obtain rfl := Option.some.inj h
      exact hret _ _ _ dX2_takeAll_26 rfl
    · have h := hf9 qh; clear ht9 hf9
      refine g_aload_n K dX2_takeAll_10 rfl 0 rfl ?_
      refine g_aload_n K dX2_takeAll_11 rfl 1 rfl ?_
      refine g_iload_n K dX2_takeAll_12 rfl 2 rfl ?_
      obtain ⟨z_2, hz_2, h⟩ := gi_bd h
      refine g_callViK (As := [.int x2]) (bytes := cJ0_charAt_5068e) (maxL := 2) (ret := (some .char)) K (ctJ0_charAt_5068e (ws := hw (g_E Γ) hb tx rr N (gu (gu o 5 o5) 6 o6) A) (i0 := 2) (by decide) x2 (res := z_2) hz_2) gc_V_RX2_113_J0_charAt_5068e rfl qv_J0_charAt_5068e (by decide) hRm rfl rfl rfl (by decide) (Nat.le_of_ble_eq_true rfl) (by decide) dX2_takeAll_13 (fun v w hw => ?_)
      obtain ⟨hv9, rfl⟩ := hw; have hv9 := hv9.symm; subst hv9
      obtain ⟨z_3, hz_3, h⟩ := gi_bd h
      refine g_callVi (As := [.int z_2]) (bytes := cX2_take) (maxL := 2) (ret := (some .boolean)) K (ctX2_take (gu (gu o 5 o5) 6 o6) A z_2 (res := z_3) hz_3) gc_V_RX2_74_X2_take rfl qv_X2_take 0 rfl rfl rfl hRm rfl rfl rfl (by decide) (Nat.le_of_ble_eq_true rfl) (by decide) dX2_takeAll_16 (fun v w hw => ?_)
      obtain ⟨hv9, rfl⟩ := hw; have hv9 := hv9.symm; subst hv9
      refine g_ws (ws' := hw (g_E Γ) hb tx rr N (gu (gu o 5 z_3.2.1) 6 z_3.2.2) A) rfl ?_
      refine g_pop K dX2_takeAll_19 rfl ?_
      refine g_iinc (v := (x2 + 1)) (L' := [(2, .int (x2 + 1)), (0, .ref hb), (1, .ref (gK (g_E Γ) 2))]) K dX2_takeAll_20 2 rfl rfl (hlt _ (by decide)) rfl ?_
      refine g_goto (tgt := 2) K dX2_takeAll_23 (by decide) ?_
      refine g_sub (L' := [(0, .ref hb), (1, .ref (gK (g_E Γ) 2)), (2, .int (x2 + 1))]) [1, 2, 0] rfl ?_
      exact ih z_3.2.1 z_3.2.2 (x2 + 1) h

set_option maxHeartbeats 4000000 in
set_option maxRecDepth 100000 in
theorem wX2_takeAll_s2 {Γ : gT} {hb tx N : Nat} {rr : Nat → Nat} {o : Nat → Int32} {A : Nat → Nat → Int32} (K : gOK Γ cX2_takeAll gU RX2) (hlt : ∀ i, i < 3 → i < g_n Γ) (hRm : g_R Γ = ({ frames := 10, cells := 0, slots := 0, locals := 400 } : Room)) {res : Int32 × Int32} (hret : ∀ (pc : Nat) (L : List (Nat × Value)) (w : va_W), decode cX2_takeAll pc = .ok (.return_, 1) → (w = hw (g_E Γ) hb tx rr N (gu (gu o 5 res.1) 6 res.2) A) → gGO Γ 0 0 pc L [] w) (o5 : Int32) (o6 : Int32) (h : pX2_takeAll_s2 N (A 3) (o 4) o5 o6 = some res) : gGO Γ 0 0 0 [(0, .ref hb), (1, .ref (gK (g_E Γ) 2))] [] (hw (g_E Γ) hb tx rr N (gu (gu o 5 o5) 6 o6) A) := by
    unfold pX2_takeAll_s2 at h
    refine g_iconst (v := 0) K dX2_takeAll_0 (by decide) ?_
    refine g_istore_n (L' := [(2, .int 0), (0, .ref hb), (1, .ref (gK (g_E Γ) 2))]) K dX2_takeAll_1 rfl (hlt _ (by decide)) rfl ?_
    refine g_sub (L' := [(0, .ref hb), (1, .ref (gK (g_E Γ) 2)), (2, .int 0)]) [1, 2, 0] rfl ?_
    exact wX2_takeAll_s2_2 K hlt hRm hret 1000 o5 o6 0 h

set_option maxRecDepth 100000 in
theorem ctX2_takeAll_s2 {E : gE} {hb tx N : Nat} {rr : Nat → Nat} (o : Nat → Int32) (A : Nat → Nat → Int32) {res : Int32 × Int32} (h : pX2_takeAll_s2 N (A 3) (o 4) (o 5) (o 6) = some res) : gMv yX2_takeAll (.code yX2_takeAll cX2_takeAll 3 none :: gU) ({ frames := 10, cells := 0, slots := 0, locals := 400 } : Room) 0 0 E [.ref hb, .ref (gK E 2)] (hw E hb tx rr N o A) (fun w => w = hw E hb tx rr N (gu (gu o 5 res.1) 6 res.2) A) := by
  refine g_met_v (by decide +kernel) (Nat.le_of_ble_eq_true rfl) (fun Γ K hn hE hRm _ hret => ?_)
  subst hE
  have hlt : ∀ i, i < 3 → i < g_n Γ := fun i q => by rw [hn]; exact q
  refine g_ws (ws' := hw (g_E Γ) hb tx rr N (gu (gu o 5 (o 5)) 6 (o 6)) A) rfl ?_
  refine g_sub (L' := [(0, .ref hb), (1, .ref (gK (g_E Γ) 2))]) [0, 1] rfl ?_
  exact wX2_takeAll_s2 K hlt hRm hret (o 5) (o 6) h

set_option maxHeartbeats 4000000 in
set_option maxRecDepth 100000 in
theorem wX2_add {Γ : gT} {hb tx N : Nat} {rr : Nat → Nat} {o : Nat → Int32} {A : Nat → Nat → Int32} (K : gOK Γ cX2_add gU RX2) (hlt : ∀ i, i < 4 → i < g_n Γ) (hRm : g_R Γ = ({ frames := 4, cells := 0, slots := 0, locals := 150 } : Room)) {res : ((Nat → Int32)) × ((Nat → Int32)) × ((Nat → Int32)) × Int32} (hret : ∀ (pc : Nat) (L : List (Nat × Value)) (w : va_W), decode cX2_add pc = .ok (.return_, 1) → (w = hw (g_E Γ) hb tx rr N (gu o 10 res.2.2.2) (gu (gu (gu A 7 res.1) 8 res.2.1) 9 res.2.2.1)) → gGO Γ 0 0 pc L [] w) (a7 : (Nat → Int32)) (a8 : (Nat → Int32)) (a9 : (Nat → Int32)) (o10 : Int32) (x1 : Int32) (x2 : Int32) (x3 : Int32) (h : pX2_add N (o 4) (o 6) a7 a8 a9 o10 x1 x2 x3 = some res) : gGO Γ 0 0 0 [(0, .ref hb), (1, .int x1), (2, .int x2), (3, .int x3)] [] (hw (g_E Γ) hb tx rr N (gu o 10 o10) (gu (gu (gu A 7 a7) 8 a8) 9 a9)) := by
    unfold pX2_add at h
    refine g_aload_n K dX2_add_0 rfl 0 rfl ?_
    refine hg_6 (v := (o 6)) K hin_X2 (u_128) rfl dX2_add_1 ?_
    obtain ⟨ht9, hf9⟩ := gi_br h; clear h
    refine g_if_ne (tgt := 18) K dX2_add_4 (by decide) (fun qh => ?_) (fun qh => ?_)
    · have h := hf9 qh; clear ht9 hf9
      obtain rfl := Option.some.inj h
      exact hret _ _ _ dX2_add_18 rfl
    · have h := ht9 qh; clear ht9 hf9
      refine g_aload_n K dX2_add_7 rfl 0 rfl ?_
      refine hg_10 (v := o10) K hin_X2 (u_132) rfl dX2_add_8 ?_
      refine g_aload_n K dX2_add_11 rfl 0 rfl ?_
      refine hg_4 (v := (o 4)) K hin_X2 (u_126) rfl dX2_add_12 ?_
      obtain ⟨ht9, hf9⟩ := gi_br h; clear h
      refine g_icmp_lt (tgt := 19) K dX2_add_15 (by decide) (fun qh => ?_) (fun qh => ?_)
      · have h := ht9 qh; clear ht9 hf9
        refine g_aload_n K dX2_add_19 rfl 0 rfl ?_
        refine hg_7 K hin_X2 (u_129) dX2_add_20 ?_
        refine g_aload_n K dX2_add_23 rfl 0 rfl ?_
        refine hg_10 (v := o10) K hin_X2 (u_132) rfl dX2_add_24 ?_
        refine g_iload_n K dX2_add_27 rfl 1 rfl ?_
        obtain ⟨b_1, h⟩ := gi_none h
        obtain ⟨f_2, ef_2, h⟩ := gi_nm h
        refine g_iast (f := a7) (ws' := hw (g_E Γ) hb tx rr N (gu o 10 o10) (gu (gu (gu A 7 f_2) 8 a8) 9 a9)) K 2 rfl (ginb_in b_1) dX2_add_28 (by rw [ef_2]; rfl) ?_
        refine g_aload_n K dX2_add_29 rfl 0 rfl ?_
        refine hg_8 K hin_X2 (u_130) dX2_add_30 ?_
        refine g_aload_n K dX2_add_33 rfl 0 rfl ?_
        refine hg_10 (v := o10) K hin_X2 (u_132) rfl dX2_add_34 ?_
        refine g_iload_n K dX2_add_37 rfl 2 rfl ?_
        obtain ⟨b_3, h⟩ := gi_none h
        obtain ⟨f_4, ef_4, h⟩ := gi_nm h
        refine g_iast (f := a8) (ws' := hw (g_E Γ) hb tx rr N (gu o 10 o10) (gu (gu (gu A 7 f_2) 8 f_4) 9 a9)) K 3 rfl (ginb_in b_3) dX2_add_38 (by rw [ef_4]; rfl) ?_
        refine g_aload_n K dX2_add_39 rfl 0 rfl ?_
        refine hg_9 K hin_X2 (u_131) dX2_add_40 ?_
        refine g_aload_n K dX2_add_43 rfl 0 rfl ?_
        refine hg_10 (v := o10) K hin_X2 (u_132) rfl dX2_add_44 ?_
        refine g_iload_n K dX2_add_47 rfl 3 rfl ?_
        obtain ⟨b_5, h⟩ := gi_none h
        obtain ⟨f_6, ef_6, h⟩ := gi_nm h
        refine g_iast (f := a9) (ws' := hw (g_E Γ) hb tx rr N (gu o 10 o10) (gu (gu (gu A 7 f_2) 8 f_4) 9 f_6)) K 4 rfl (ginb_in b_5) dX2_add_48 (by rw [ef_6]; rfl) ?_
        refine g_aload_n K dX2_add_49 rfl 0 rfl ?_
        refine g_dup K dX2_add_50 rfl ?_
        refine hg_10 (v := o10) K hin_X2 (u_132) rfl dX2_add_51 ?_
        refine g_iconst (v := 1) K dX2_add_54 (by decide) ?_
        refine g_iadd K dX2_add_55 ?_
        refine hp_10 (w' := hw (g_E Γ) hb tx rr N (gu o 10 (o10 + 1)) (gu (gu (gu A 7 f_2) 8 f_4) 9 f_6)) K hin_X2 (u_132) rfl rfl dX2_add_56 rfl ?_
        obtain rfl := Option.some.inj h
        exact hret _ _ _ dX2_add_59 rfl
      · have h := hf9 qh; clear ht9 hf9
        obtain rfl := Option.some.inj h
        exact hret _ _ _ dX2_add_18 rfl

set_option maxRecDepth 100000 in
theorem ctX2_add {E : gE} {hb tx N : Nat} {rr : Nat → Nat} (o : Nat → Int32) (A : Nat → Nat → Int32) (x1 : Int32) (x2 : Int32) (x3 : Int32) {res : ((Nat → Int32)) × ((Nat → Int32)) × ((Nat → Int32)) × Int32} (h : pX2_add N (o 4) (o 6) (A 7) (A 8) (A 9) (o 10) x1 x2 x3 = some res) : gMv yX2_add (.code yX2_add cX2_add 4 none :: gU) ({ frames := 4, cells := 0, slots := 0, locals := 150 } : Room) 0 0 E [.ref hb, .int x1, .int x2, .int x3] (hw E hb tx rr N o A) (fun w => w = hw E hb tx rr N (gu o 10 res.2.2.2) (gu (gu (gu A 7 res.1) 8 res.2.1) 9 res.2.2.1)) := by
  refine g_met_v (by decide +kernel) (Nat.le_of_ble_eq_true rfl) (fun Γ K hn hE hRm _ hret => ?_)
  subst hE
  have hlt : ∀ i, i < 4 → i < g_n Γ := fun i q => by rw [hn]; exact q
  refine g_ws (ws' := hw (g_E Γ) hb tx rr N (gu o 10 (o 10)) (gu (gu (gu A 7 (A 7)) 8 (A 8)) 9 (A 9))) rfl ?_
  refine g_sub (L' := [(0, .ref hb), (1, .int x1), (2, .int x2), (3, .int x3)]) [0, 1, 2, 3] rfl ?_
  exact wX2_add K hlt hRm hret (A 7) (A 8) (A 9) (o 10) x1 x2 x3 h

set_option maxHeartbeats 4000000 in
set_option maxRecDepth 100000 in
theorem wX2_readBoth_7 {Γ : gT} {hb tx N : Nat} {rr : Nat → Nat} {o : Nat → Int32} {A : Nat → Nat → Int32} {dd : Nat} {kF : (Nat → Int32) → Int32 → (Nat → Int32) → (Nat → Int32) → (Nat → Int32) → Int32 → Int32 → Int32 → Int32 → Option (((Nat → Int32)) × ((Nat → Int32)) × ((Nat → Int32)) × Int32 × Int32 × Int32)} (hkF : ∀ (o : Nat → Int32) (A : Nat → Nat → Int32) (x1 : Int32) (z : ((Nat → Int32)) × ((Nat → Int32)) × ((Nat → Int32)) × Int32 × Int32 × Int32), kF (A 3) (o 4) (A 7) (A 8) (A 9) (o 5) (o 6) (o 10) x1 = some z → gMv yX2_readPart (.code yX2_readPart cX2_readPart 6 none :: gU) ({ frames := 12 + 4 * dd + 0, cells := 0, slots := 0, locals := 400 + 160 * dd + 0 } : Room) 0 0 (g_E Γ) [.ref hb, .int x1] (hw (g_E Γ) hb tx rr N o A) (fun w => w = hw (g_E Γ) hb tx rr N (gu (gu (gu o 5 z.2.2.2.1) 6 z.2.2.2.2.1) 10 z.2.2.2.2.2) (gu (gu (gu A 7 z.1) 8 z.2.1) 9 z.2.2.1))) (K : gOK Γ cX2_readBoth gU RX2) (hlt : ∀ i, i < 3 → i < g_n Γ) (hRm : g_R Γ = ({ frames := 12 + 4 * dd + 1, cells := 0, slots := 0, locals := 400 + 160 * dd + 40 } : Room)) {res : ((Nat → Int32)) × ((Nat → Int32)) × ((Nat → Int32)) × Int32 × Int32 × Int32} (hret : ∀ (pc : Nat) (L : List (Nat × Value)) (w : va_W), decode cX2_readBoth pc = .ok (.return_, 1) → (w = hw (g_E Γ) hb tx rr N (gu (gu (gu o 5 res.2.2.2.1) 6 res.2.2.2.2.1) 10 res.2.2.2.2.2) (gu (gu (gu A 7 res.1) 8 res.2.1) 9 res.2.2.1)) → gGO Γ 0 0 pc L [] w) : ∀ (n : Nat) (a7 : (Nat → Int32)) (a8 : (Nat → Int32)) (a9 : (Nat → Int32)) (o5 : Int32) (o6 : Int32) (o10 : Int32) (x1 : Int32) (x2 : Int32), pX2_readBoth_7 N kF (A 3) (o 4) n a7 a8 a9 o5 o6 o10 x1 x2 = some res → gGO Γ 0 0 7 [(0, .ref hb), (1, .int x1), (2, .int x2)] [] (hw (g_E Γ) hb tx rr N (gu (gu (gu o 5 o5) 6 o6) 10 o10) (gu (gu (gu A 7 a7) 8 a8) 9 a9)) := by
  intro n
  induction n with
  | zero => intro _ _ _ _ _ _ _ _ h; cases h
  | succ n ih =>
    intro a7 a8 a9 o5 o6 o10 x1 x2 h
    simp only [pX2_readBoth_7] at h
    refine g_iload_n K dX2_readBoth_7 rfl 2 rfl ?_
    refine g_aload_n K dX2_readBoth_8 rfl 0 rfl ?_
    refine hg_4 (v := (o 4)) K hin_X2 (u_126) rfl dX2_readBoth_9 ?_
    obtain ⟨ht9, hf9⟩ := gi_br h; clear h
    refine g_icmp_ge (tgt := 53) K dX2_readBoth_12 (by decide) (fun qh => ?_) (fun qh => ?_)
    · have h := ht9 qh; clear ht9 hf9
      obtain rfl := Option.some.inj h
      exact hret _ _ _ dX2_readBoth_53 rfl
    · have h := hf9 qh; clear ht9 hf9
      refine g_aload_n K dX2_readBoth_15 rfl 0 rfl ?_
      obtain ⟨z_1, hz_1, h⟩ := gi_bd h
      refine g_callVi (As := []) (bytes := cX2_sign) (maxL := 1) (ret := (some .int)) K (ctX2_sign (gu (gu (gu o 5 o5) 6 o6) 10 o10) (gu (gu (gu A 7 a7) 8 a8) 9 a9) (res := z_1) hz_1) gc_V_RX2_45_X2_sign rfl qv_X2_sign 0 rfl rfl rfl hRm rfl rfl rfl (by constructor <;> (dsimp only; omega)) (Nat.le_of_ble_eq_true rfl) ⟨Nat.le_refl _, Nat.le_refl _⟩ dX2_readBoth_16 (fun v w hw => ?_)
      obtain ⟨hv9, rfl⟩ := hw; have hv9 := hv9.symm; subst hv9
      refine g_bipush (v := 38) K dX2_readBoth_19 (by decide) ?_
      obtain ⟨ht9, hf9⟩ := gi_br h; clear h
      refine g_icmp_ne (tgt := 53) K dX2_readBoth_21 (by decide) (fun qh => ?_) (fun qh => ?_)
      · have h := hf9 qh; clear ht9 hf9
        obtain rfl := Option.some.inj h
        exact hret _ _ _ dX2_readBoth_53 rfl
      · have h := ht9 qh; clear ht9 hf9
        refine g_aload_n K dX2_readBoth_24 rfl 0 rfl ?_
        refine g_dup K dX2_readBoth_25 rfl ?_
        refine hg_5 (v := o5) K hin_X2 (u_127) rfl dX2_readBoth_26 ?_
        refine g_iconst (v := 1) K dX2_readBoth_29 (by decide) ?_
        refine g_iadd K dX2_readBoth_30 ?_
        refine hp_5 (w' := hw (g_E Γ) hb tx rr N (gu (gu (gu o 5 (o5 + 1)) 6 o6) 10 o10) (gu (gu (gu A 7 a7) 8 a8) 9 a9)) K hin_X2 (u_127) rfl rfl dX2_readBoth_31 rfl ?_
        refine g_aload_n K dX2_readBoth_34 rfl 0 rfl ?_
        refine g_iload_n K dX2_readBoth_35 rfl 1 rfl ?_
        obtain ⟨z_2, hz_2, h⟩ := gi_bd h
        refine g_callVv (As := [.int x1]) (bytes := cX2_readPart) (maxL := 6) (ret := none) K (hkF (gu (gu (gu o 5 (o5 + 1)) 6 o6) 10 o10) (gu (gu (gu A 7 a7) 8 a8) 9 a9) x1 z_2 hz_2) gc_V_RX2_99_X2_readPart rfl qv_X2_readPart 0 rfl rfl rfl hRm rfl rfl rfl (by constructor <;> (dsimp only; omega)) (Nat.le_of_ble_eq_true rfl) ⟨Nat.le_refl _, Nat.le_refl _⟩ dX2_readBoth_36 (fun w hw => ?_)
        subst hw
        refine g_ws (ws' := hw (g_E Γ) hb tx rr N (gu (gu (gu o 5 z_2.2.2.2.1) 6 z_2.2.2.2.2.1) 10 z_2.2.2.2.2.2) (gu (gu (gu A 7 z_2.1) 8 z_2.2.1) 9 z_2.2.2.1)) rfl ?_
        refine g_aload_n K dX2_readBoth_39 rfl 0 rfl ?_
        refine g_bipush (v := (-2)) K dX2_readBoth_40 (by decide) ?_
        refine g_iconst (v := 0) K dX2_readBoth_42 (by decide) ?_
        refine g_iconst (v := 0) K dX2_readBoth_43 (by decide) ?_
        obtain ⟨z_3, hz_3, h⟩ := gi_bd h
        refine g_callVv (As := [.int (-2), .int 0, .int 0]) (bytes := cX2_add) (maxL := 4) (ret := none) K (ctX2_add (gu (gu (gu o 5 z_2.2.2.2.1) 6 z_2.2.2.2.2.1) 10 z_2.2.2.2.2.2) (gu (gu (gu A 7 z_2.1) 8 z_2.2.1) 9 z_2.2.2.1) (-2) 0 0 (res := z_3) hz_3) gc_V_RX2_92_X2_add rfl qv_X2_add 0 rfl rfl rfl hRm rfl rfl rfl (by constructor <;> (dsimp only; omega)) (Nat.le_of_ble_eq_true rfl) ⟨Nat.le_refl _, Nat.le_refl _⟩ dX2_readBoth_44 (fun w hw => ?_)
        subst hw
        refine g_ws (ws' := hw (g_E Γ) hb tx rr N (gu (gu (gu o 5 z_2.2.2.2.1) 6 z_2.2.2.2.2.1) 10 z_3.2.2.2) (gu (gu (gu A 7 z_3.1) 8 z_3.2.1) 9 z_3.2.2.1)) rfl ?_
        refine g_iinc (v := (x2 + 1)) (L' := [(2, .int (x2 + 1)), (0, .ref hb), (1, .int x1)]) K dX2_readBoth_47 2 rfl rfl (hlt _ (by decide)) rfl ?_
        refine g_goto (tgt := 7) K dX2_readBoth_50 (by decide) ?_
        refine g_sub (L' := [(0, .ref hb), (1, .int x1), (2, .int (x2 + 1))]) [1, 2, 0] rfl ?_
        exact ih z_3.1 z_3.2.1 z_3.2.2.1 z_2.2.2.2.1 z_2.2.2.2.2.1 z_3.2.2.2 x1 (x2 + 1) h

set_option maxHeartbeats 4000000 in
set_option maxRecDepth 100000 in
theorem wX2_readBoth {Γ : gT} {hb tx N : Nat} {rr : Nat → Nat} {o : Nat → Int32} {A : Nat → Nat → Int32} {dd : Nat} {kF : (Nat → Int32) → Int32 → (Nat → Int32) → (Nat → Int32) → (Nat → Int32) → Int32 → Int32 → Int32 → Int32 → Option (((Nat → Int32)) × ((Nat → Int32)) × ((Nat → Int32)) × Int32 × Int32 × Int32)} (hkF : ∀ (o : Nat → Int32) (A : Nat → Nat → Int32) (x1 : Int32) (z : ((Nat → Int32)) × ((Nat → Int32)) × ((Nat → Int32)) × Int32 × Int32 × Int32), kF (A 3) (o 4) (A 7) (A 8) (A 9) (o 5) (o 6) (o 10) x1 = some z → gMv yX2_readPart (.code yX2_readPart cX2_readPart 6 none :: gU) ({ frames := 12 + 4 * dd + 0, cells := 0, slots := 0, locals := 400 + 160 * dd + 0 } : Room) 0 0 (g_E Γ) [.ref hb, .int x1] (hw (g_E Γ) hb tx rr N o A) (fun w => w = hw (g_E Γ) hb tx rr N (gu (gu (gu o 5 z.2.2.2.1) 6 z.2.2.2.2.1) 10 z.2.2.2.2.2) (gu (gu (gu A 7 z.1) 8 z.2.1) 9 z.2.2.1))) (K : gOK Γ cX2_readBoth gU RX2) (hlt : ∀ i, i < 3 → i < g_n Γ) (hRm : g_R Γ = ({ frames := 12 + 4 * dd + 1, cells := 0, slots := 0, locals := 400 + 160 * dd + 40 } : Room)) {res : ((Nat → Int32)) × ((Nat → Int32)) × ((Nat → Int32)) × Int32 × Int32 × Int32} (hret : ∀ (pc : Nat) (L : List (Nat × Value)) (w : va_W), decode cX2_readBoth pc = .ok (.return_, 1) → (w = hw (g_E Γ) hb tx rr N (gu (gu (gu o 5 res.2.2.2.1) 6 res.2.2.2.2.1) 10 res.2.2.2.2.2) (gu (gu (gu A 7 res.1) 8 res.2.1) 9 res.2.2.1)) → gGO Γ 0 0 pc L [] w) (a7 : (Nat → Int32)) (a8 : (Nat → Int32)) (a9 : (Nat → Int32)) (o5 : Int32) (o6 : Int32) (o10 : Int32) (x1 : Int32) (h : pX2_readBoth N kF (A 3) (o 4) a7 a8 a9 o5 o6 o10 x1 = some res) : gGO Γ 0 0 0 [(0, .ref hb), (1, .int x1)] [] (hw (g_E Γ) hb tx rr N (gu (gu (gu o 5 o5) 6 o6) 10 o10) (gu (gu (gu A 7 a7) 8 a8) 9 a9)) := by
    unfold pX2_readBoth at h
    refine g_aload_n K dX2_readBoth_0 rfl 0 rfl ?_
    refine g_iload_n K dX2_readBoth_1 rfl 1 rfl ?_
    obtain ⟨z_1, hz_1, h⟩ := gi_bd h
    refine g_callVv (As := [.int x1]) (bytes := cX2_readPart) (maxL := 6) (ret := none) K (hkF (gu (gu (gu o 5 o5) 6 o6) 10 o10) (gu (gu (gu A 7 a7) 8 a8) 9 a9) x1 z_1 hz_1) gc_V_RX2_99_X2_readPart rfl qv_X2_readPart 0 rfl rfl rfl hRm rfl rfl rfl (by constructor <;> (dsimp only; omega)) (Nat.le_of_ble_eq_true rfl) ⟨Nat.le_refl _, Nat.le_refl _⟩ dX2_readBoth_2 (fun w hw => ?_)
    subst hw
    refine g_ws (ws' := hw (g_E Γ) hb tx rr N (gu (gu (gu o 5 z_1.2.2.2.1) 6 z_1.2.2.2.2.1) 10 z_1.2.2.2.2.2) (gu (gu (gu A 7 z_1.1) 8 z_1.2.1) 9 z_1.2.2.1)) rfl ?_
    refine g_iconst (v := 0) K dX2_readBoth_5 (by decide) ?_
    refine g_istore_n (L' := [(2, .int 0), (0, .ref hb), (1, .int x1)]) K dX2_readBoth_6 rfl (hlt _ (by decide)) rfl ?_
    refine g_sub (L' := [(0, .ref hb), (1, .int x1), (2, .int 0)]) [1, 2, 0] rfl ?_
    exact wX2_readBoth_7 hkF K hlt hRm hret 1000 z_1.1 z_1.2.1 z_1.2.2.1 z_1.2.2.2.1 z_1.2.2.2.2.1 z_1.2.2.2.2.2 x1 0 h

set_option maxRecDepth 100000 in
theorem ctX2_readBoth {E : gE} {hb tx N : Nat} {rr : Nat → Nat} {dd : Nat} {kF : (Nat → Int32) → Int32 → (Nat → Int32) → (Nat → Int32) → (Nat → Int32) → Int32 → Int32 → Int32 → Int32 → Option (((Nat → Int32)) × ((Nat → Int32)) × ((Nat → Int32)) × Int32 × Int32 × Int32)} (hkF : ∀ (o : Nat → Int32) (A : Nat → Nat → Int32) (x1 : Int32) (z : ((Nat → Int32)) × ((Nat → Int32)) × ((Nat → Int32)) × Int32 × Int32 × Int32), kF (A 3) (o 4) (A 7) (A 8) (A 9) (o 5) (o 6) (o 10) x1 = some z → gMv yX2_readPart (.code yX2_readPart cX2_readPart 6 none :: gU) ({ frames := 12 + 4 * dd + 0, cells := 0, slots := 0, locals := 400 + 160 * dd + 0 } : Room) 0 0 E [.ref hb, .int x1] (hw E hb tx rr N o A) (fun w => w = hw E hb tx rr N (gu (gu (gu o 5 z.2.2.2.1) 6 z.2.2.2.2.1) 10 z.2.2.2.2.2) (gu (gu (gu A 7 z.1) 8 z.2.1) 9 z.2.2.1))) (o : Nat → Int32) (A : Nat → Nat → Int32) (x1 : Int32) {res : ((Nat → Int32)) × ((Nat → Int32)) × ((Nat → Int32)) × Int32 × Int32 × Int32} (h : pX2_readBoth N kF (A 3) (o 4) (A 7) (A 8) (A 9) (o 5) (o 6) (o 10) x1 = some res) : gMv yX2_readBoth (.code yX2_readBoth cX2_readBoth 3 none :: gU) ({ frames := 12 + 4 * dd + 1, cells := 0, slots := 0, locals := 400 + 160 * dd + 40 } : Room) 0 0 E [.ref hb, .int x1] (hw E hb tx rr N o A) (fun w => w = hw E hb tx rr N (gu (gu (gu o 5 res.2.2.2.1) 6 res.2.2.2.2.1) 10 res.2.2.2.2.2) (gu (gu (gu A 7 res.1) 8 res.2.1) 9 res.2.2.1)) := by
  refine g_met_v (by decide +kernel) (Nat.le_of_ble_eq_true rfl) (fun Γ K hn hE hRm _ hret => ?_)
  subst hE
  have hlt : ∀ i, i < 3 → i < g_n Γ := fun i q => by rw [hn]; exact q
  refine g_ws (ws' := hw (g_E Γ) hb tx rr N (gu (gu (gu o 5 (o 5)) 6 (o 6)) 10 (o 10)) (gu (gu (gu A 7 (A 7)) 8 (A 8)) 9 (A 9))) rfl ?_
  refine g_sub (L' := [(0, .ref hb), (1, .int x1)]) [0, 1] rfl ?_
  exact wX2_readBoth hkF K hlt hRm hret (A 7) (A 8) (A 9) (o 5) (o 6) (o 10) x1 h

set_option maxHeartbeats 4000000 in
set_option maxRecDepth 100000 in
theorem wX2_readEither_7 {Γ : gT} {hb tx N : Nat} {rr : Nat → Nat} {o : Nat → Int32} {A : Nat → Nat → Int32} {dd : Nat} {kF : (Nat → Int32) → Int32 → (Nat → Int32) → (Nat → Int32) → (Nat → Int32) → Int32 → Int32 → Int32 → Int32 → Option (((Nat → Int32)) × ((Nat → Int32)) × ((Nat → Int32)) × Int32 × Int32 × Int32)} (hkF : ∀ (o : Nat → Int32) (A : Nat → Nat → Int32) (x1 : Int32) (z : ((Nat → Int32)) × ((Nat → Int32)) × ((Nat → Int32)) × Int32 × Int32 × Int32), kF (A 3) (o 4) (A 7) (A 8) (A 9) (o 5) (o 6) (o 10) x1 = some z → gMv yX2_readPart (.code yX2_readPart cX2_readPart 6 none :: gU) ({ frames := 12 + 4 * dd + 0, cells := 0, slots := 0, locals := 400 + 160 * dd + 0 } : Room) 0 0 (g_E Γ) [.ref hb, .int x1] (hw (g_E Γ) hb tx rr N o A) (fun w => w = hw (g_E Γ) hb tx rr N (gu (gu (gu o 5 z.2.2.2.1) 6 z.2.2.2.2.1) 10 z.2.2.2.2.2) (gu (gu (gu A 7 z.1) 8 z.2.1) 9 z.2.2.1))) (K : gOK Γ cX2_readEither gU RX2) (hlt : ∀ i, i < 3 → i < g_n Γ) (hRm : g_R Γ = ({ frames := 12 + 4 * dd + 2, cells := 0, slots := 0, locals := 400 + 160 * dd + 80 } : Room)) {res : ((Nat → Int32)) × ((Nat → Int32)) × ((Nat → Int32)) × Int32 × Int32 × Int32} (hret : ∀ (pc : Nat) (L : List (Nat × Value)) (w : va_W), decode cX2_readEither pc = .ok (.return_, 1) → (w = hw (g_E Γ) hb tx rr N (gu (gu (gu o 5 res.2.2.2.1) 6 res.2.2.2.2.1) 10 res.2.2.2.2.2) (gu (gu (gu A 7 res.1) 8 res.2.1) 9 res.2.2.1)) → gGO Γ 0 0 pc L [] w) : ∀ (n : Nat) (a7 : (Nat → Int32)) (a8 : (Nat → Int32)) (a9 : (Nat → Int32)) (o5 : Int32) (o6 : Int32) (o10 : Int32) (x1 : Int32) (x2 : Int32), pX2_readEither_7 N kF (A 3) (o 4) n a7 a8 a9 o5 o6 o10 x1 x2 = some res → gGO Γ 0 0 7 [(0, .ref hb), (1, .int x1), (2, .int x2)] [] (hw (g_E Γ) hb tx rr N (gu (gu (gu o 5 o5) 6 o6) 10 o10) (gu (gu (gu A 7 a7) 8 a8) 9 a9)) := by
  intro n
  induction n with
  | zero => intro _ _ _ _ _ _ _ _ h; cases h
  | succ n ih =>
    intro a7 a8 a9 o5 o6 o10 x1 x2 h
    simp only [pX2_readEither_7] at h
    refine g_iload_n K dX2_readEither_7 rfl 2 rfl ?_
    refine g_aload_n K dX2_readEither_8 rfl 0 rfl ?_
    refine hg_4 (v := (o 4)) K hin_X2 (u_126) rfl dX2_readEither_9 ?_
    obtain ⟨ht9, hf9⟩ := gi_br h; clear h
    refine g_icmp_ge (tgt := 53) K dX2_readEither_12 (by decide) (fun qh => ?_) (fun qh => ?_)
    · have h := ht9 qh; clear ht9 hf9
      obtain rfl := Option.some.inj h
      exact hret _ _ _ dX2_readEither_53 rfl
    · have h := hf9 qh; clear ht9 hf9
      refine g_aload_n K dX2_readEither_15 rfl 0 rfl ?_
      obtain ⟨z_1, hz_1, h⟩ := gi_bd h
      refine g_callVi (As := []) (bytes := cX2_sign) (maxL := 1) (ret := (some .int)) K (ctX2_sign (gu (gu (gu o 5 o5) 6 o6) 10 o10) (gu (gu (gu A 7 a7) 8 a8) 9 a9) (res := z_1) hz_1) gc_V_RX2_45_X2_sign rfl qv_X2_sign 0 rfl rfl rfl hRm rfl rfl rfl (by constructor <;> (dsimp only; omega)) (Nat.le_of_ble_eq_true rfl) ⟨Nat.le_refl _, Nat.le_refl _⟩ dX2_readEither_16 (fun v w hw => ?_)
      obtain ⟨hv9, rfl⟩ := hw; have hv9 := hv9.symm; subst hv9
      refine g_bipush (v := 124) K dX2_readEither_19 (by decide) ?_
      obtain ⟨ht9, hf9⟩ := gi_br h; clear h
      refine g_icmp_ne (tgt := 53) K dX2_readEither_21 (by decide) (fun qh => ?_) (fun qh => ?_)
      · have h := hf9 qh; clear ht9 hf9
        obtain rfl := Option.some.inj h
        exact hret _ _ _ dX2_readEither_53 rfl
      · have h := ht9 qh; clear ht9 hf9
        refine g_aload_n K dX2_readEither_24 rfl 0 rfl ?_
        refine g_dup K dX2_readEither_25 rfl ?_
        refine hg_5 (v := o5) K hin_X2 (u_127) rfl dX2_readEither_26 ?_
        refine g_iconst (v := 1) K dX2_readEither_29 (by decide) ?_
        refine g_iadd K dX2_readEither_30 ?_
        refine hp_5 (w' := hw (g_E Γ) hb tx rr N (gu (gu (gu o 5 (o5 + 1)) 6 o6) 10 o10) (gu (gu (gu A 7 a7) 8 a8) 9 a9)) K hin_X2 (u_127) rfl rfl dX2_readEither_31 rfl ?_
        refine g_aload_n K dX2_readEither_34 rfl 0 rfl ?_
        refine g_iload_n K dX2_readEither_35 rfl 1 rfl ?_
        obtain ⟨z_2, hz_2, h⟩ := gi_bd h
        refine g_callVv (As := [.int x1]) (bytes := cX2_readBoth) (maxL := 3) (ret := none) K (ctX2_readBoth (dd := dd) hkF (gu (gu (gu o 5 (o5 + 1)) 6 o6) 10 o10) (gu (gu (gu A 7 a7) 8 a8) 9 a9) x1 (res := z_2) hz_2) gc_V_RX2_96_X2_readBoth rfl qv_X2_readBoth 0 rfl rfl rfl hRm rfl rfl rfl (by constructor <;> (dsimp only; omega)) (Nat.le_of_ble_eq_true rfl) ⟨Nat.le_refl _, Nat.le_refl _⟩ dX2_readEither_36 (fun w hw => ?_)
        subst hw
        refine g_ws (ws' := hw (g_E Γ) hb tx rr N (gu (gu (gu o 5 z_2.2.2.2.1) 6 z_2.2.2.2.2.1) 10 z_2.2.2.2.2.2) (gu (gu (gu A 7 z_2.1) 8 z_2.2.1) 9 z_2.2.2.1)) rfl ?_
        refine g_aload_n K dX2_readEither_39 rfl 0 rfl ?_
        refine g_bipush (v := (-3)) K dX2_readEither_40 (by decide) ?_
        refine g_iconst (v := 0) K dX2_readEither_42 (by decide) ?_
        refine g_iconst (v := 0) K dX2_readEither_43 (by decide) ?_
        obtain ⟨z_3, hz_3, h⟩ := gi_bd h
        refine g_callVv (As := [.int (-3), .int 0, .int 0]) (bytes := cX2_add) (maxL := 4) (ret := none) K (ctX2_add (gu (gu (gu o 5 z_2.2.2.2.1) 6 z_2.2.2.2.2.1) 10 z_2.2.2.2.2.2) (gu (gu (gu A 7 z_2.1) 8 z_2.2.1) 9 z_2.2.2.1) (-3) 0 0 (res := z_3) hz_3) gc_V_RX2_92_X2_add rfl qv_X2_add 0 rfl rfl rfl hRm rfl rfl rfl (by constructor <;> (dsimp only; omega)) (Nat.le_of_ble_eq_true rfl) ⟨Nat.le_refl _, Nat.le_refl _⟩ dX2_readEither_44 (fun w hw => ?_)
        subst hw
        refine g_ws (ws' := hw (g_E Γ) hb tx rr N (gu (gu (gu o 5 z_2.2.2.2.1) 6 z_2.2.2.2.2.1) 10 z_3.2.2.2) (gu (gu (gu A 7 z_3.1) 8 z_3.2.1) 9 z_3.2.2.1)) rfl ?_
        refine g_iinc (v := (x2 + 1)) (L' := [(2, .int (x2 + 1)), (0, .ref hb), (1, .int x1)]) K dX2_readEither_47 2 rfl rfl (hlt _ (by decide)) rfl ?_
        refine g_goto (tgt := 7) K dX2_readEither_50 (by decide) ?_
        refine g_sub (L' := [(0, .ref hb), (1, .int x1), (2, .int (x2 + 1))]) [1, 2, 0] rfl ?_
        exact ih z_3.1 z_3.2.1 z_3.2.2.1 z_2.2.2.2.1 z_2.2.2.2.2.1 z_3.2.2.2 x1 (x2 + 1) h

set_option maxHeartbeats 4000000 in
set_option maxRecDepth 100000 in
theorem wX2_readEither {Γ : gT} {hb tx N : Nat} {rr : Nat → Nat} {o : Nat → Int32} {A : Nat → Nat → Int32} {dd : Nat} {kF : (Nat → Int32) → Int32 → (Nat → Int32) → (Nat → Int32) → (Nat → Int32) → Int32 → Int32 → Int32 → Int32 → Option (((Nat → Int32)) × ((Nat → Int32)) × ((Nat → Int32)) × Int32 × Int32 × Int32)} (hkF : ∀ (o : Nat → Int32) (A : Nat → Nat → Int32) (x1 : Int32) (z : ((Nat → Int32)) × ((Nat → Int32)) × ((Nat → Int32)) × Int32 × Int32 × Int32), kF (A 3) (o 4) (A 7) (A 8) (A 9) (o 5) (o 6) (o 10) x1 = some z → gMv yX2_readPart (.code yX2_readPart cX2_readPart 6 none :: gU) ({ frames := 12 + 4 * dd + 0, cells := 0, slots := 0, locals := 400 + 160 * dd + 0 } : Room) 0 0 (g_E Γ) [.ref hb, .int x1] (hw (g_E Γ) hb tx rr N o A) (fun w => w = hw (g_E Γ) hb tx rr N (gu (gu (gu o 5 z.2.2.2.1) 6 z.2.2.2.2.1) 10 z.2.2.2.2.2) (gu (gu (gu A 7 z.1) 8 z.2.1) 9 z.2.2.1))) (K : gOK Γ cX2_readEither gU RX2) (hlt : ∀ i, i < 3 → i < g_n Γ) (hRm : g_R Γ = ({ frames := 12 + 4 * dd + 2, cells := 0, slots := 0, locals := 400 + 160 * dd + 80 } : Room)) {res : ((Nat → Int32)) × ((Nat → Int32)) × ((Nat → Int32)) × Int32 × Int32 × Int32} (hret : ∀ (pc : Nat) (L : List (Nat × Value)) (w : va_W), decode cX2_readEither pc = .ok (.return_, 1) → (w = hw (g_E Γ) hb tx rr N (gu (gu (gu o 5 res.2.2.2.1) 6 res.2.2.2.2.1) 10 res.2.2.2.2.2) (gu (gu (gu A 7 res.1) 8 res.2.1) 9 res.2.2.1)) → gGO Γ 0 0 pc L [] w) (a7 : (Nat → Int32)) (a8 : (Nat → Int32)) (a9 : (Nat → Int32)) (o5 : Int32) (o6 : Int32) (o10 : Int32) (x1 : Int32) (h : pX2_readEither N kF (A 3) (o 4) a7 a8 a9 o5 o6 o10 x1 = some res) : gGO Γ 0 0 0 [(0, .ref hb), (1, .int x1)] [] (hw (g_E Γ) hb tx rr N (gu (gu (gu o 5 o5) 6 o6) 10 o10) (gu (gu (gu A 7 a7) 8 a8) 9 a9)) := by
    unfold pX2_readEither at h
    refine g_aload_n K dX2_readEither_0 rfl 0 rfl ?_
    refine g_iload_n K dX2_readEither_1 rfl 1 rfl ?_
    obtain ⟨z_1, hz_1, h⟩ := gi_bd h
    refine g_callVv (As := [.int x1]) (bytes := cX2_readBoth) (maxL := 3) (ret := none) K (ctX2_readBoth (dd := dd) hkF (gu (gu (gu o 5 o5) 6 o6) 10 o10) (gu (gu (gu A 7 a7) 8 a8) 9 a9) x1 (res := z_1) hz_1) gc_V_RX2_96_X2_readBoth rfl qv_X2_readBoth 0 rfl rfl rfl hRm rfl rfl rfl (by constructor <;> (dsimp only; omega)) (Nat.le_of_ble_eq_true rfl) ⟨Nat.le_refl _, Nat.le_refl _⟩ dX2_readEither_2 (fun w hw => ?_)
    subst hw
    refine g_ws (ws' := hw (g_E Γ) hb tx rr N (gu (gu (gu o 5 z_1.2.2.2.1) 6 z_1.2.2.2.2.1) 10 z_1.2.2.2.2.2) (gu (gu (gu A 7 z_1.1) 8 z_1.2.1) 9 z_1.2.2.1)) rfl ?_
    refine g_iconst (v := 0) K dX2_readEither_5 (by decide) ?_
    refine g_istore_n (L' := [(2, .int 0), (0, .ref hb), (1, .int x1)]) K dX2_readEither_6 rfl (hlt _ (by decide)) rfl ?_
    refine g_sub (L' := [(0, .ref hb), (1, .int x1), (2, .int 0)]) [1, 2, 0] rfl ?_
    exact wX2_readEither_7 hkF K hlt hRm hret 1000 z_1.1 z_1.2.1 z_1.2.2.1 z_1.2.2.2.1 z_1.2.2.2.2.1 z_1.2.2.2.2.2 x1 0 h

set_option maxRecDepth 100000 in
theorem ctX2_readEither {E : gE} {hb tx N : Nat} {rr : Nat → Nat} {dd : Nat} {kF : (Nat → Int32) → Int32 → (Nat → Int32) → (Nat → Int32) → (Nat → Int32) → Int32 → Int32 → Int32 → Int32 → Option (((Nat → Int32)) × ((Nat → Int32)) × ((Nat → Int32)) × Int32 × Int32 × Int32)} (hkF : ∀ (o : Nat → Int32) (A : Nat → Nat → Int32) (x1 : Int32) (z : ((Nat → Int32)) × ((Nat → Int32)) × ((Nat → Int32)) × Int32 × Int32 × Int32), kF (A 3) (o 4) (A 7) (A 8) (A 9) (o 5) (o 6) (o 10) x1 = some z → gMv yX2_readPart (.code yX2_readPart cX2_readPart 6 none :: gU) ({ frames := 12 + 4 * dd + 0, cells := 0, slots := 0, locals := 400 + 160 * dd + 0 } : Room) 0 0 E [.ref hb, .int x1] (hw E hb tx rr N o A) (fun w => w = hw E hb tx rr N (gu (gu (gu o 5 z.2.2.2.1) 6 z.2.2.2.2.1) 10 z.2.2.2.2.2) (gu (gu (gu A 7 z.1) 8 z.2.1) 9 z.2.2.1))) (o : Nat → Int32) (A : Nat → Nat → Int32) (x1 : Int32) {res : ((Nat → Int32)) × ((Nat → Int32)) × ((Nat → Int32)) × Int32 × Int32 × Int32} (h : pX2_readEither N kF (A 3) (o 4) (A 7) (A 8) (A 9) (o 5) (o 6) (o 10) x1 = some res) : gMv yX2_readEither (.code yX2_readEither cX2_readEither 3 none :: gU) ({ frames := 12 + 4 * dd + 2, cells := 0, slots := 0, locals := 400 + 160 * dd + 80 } : Room) 0 0 E [.ref hb, .int x1] (hw E hb tx rr N o A) (fun w => w = hw E hb tx rr N (gu (gu (gu o 5 res.2.2.2.1) 6 res.2.2.2.2.1) 10 res.2.2.2.2.2) (gu (gu (gu A 7 res.1) 8 res.2.1) 9 res.2.2.1)) := by
  refine g_met_v (by decide +kernel) (Nat.le_of_ble_eq_true rfl) (fun Γ K hn hE hRm _ hret => ?_)
  subst hE
  have hlt : ∀ i, i < 3 → i < g_n Γ := fun i q => by rw [hn]; exact q
  refine g_ws (ws' := hw (g_E Γ) hb tx rr N (gu (gu (gu o 5 (o 5)) 6 (o 6)) 10 (o 10)) (gu (gu (gu A 7 (A 7)) 8 (A 8)) 9 (A 9))) rfl ?_
  refine g_sub (L' := [(0, .ref hb), (1, .int x1)]) [0, 1] rfl ?_
  exact wX2_readEither hkF K hlt hRm hret (A 7) (A 8) (A 9) (o 5) (o 6) (o 10) x1 h

set_option maxHeartbeats 4000000 in
set_option maxRecDepth 100000 in
theorem wX2_readPartB_156 {Γ : gT} {hb tx N : Nat} {rr : Nat → Nat} {o : Nat → Int32} {A : Nat → Nat → Int32} {dd : Nat} {kF : (Nat → Int32) → Int32 → (Nat → Int32) → (Nat → Int32) → (Nat → Int32) → Int32 → Int32 → Int32 → Int32 → Option (((Nat → Int32)) × ((Nat → Int32)) × ((Nat → Int32)) × Int32 × Int32 × Int32)} (hkF : ∀ (o : Nat → Int32) (A : Nat → Nat → Int32) (x1 : Int32) (z : ((Nat → Int32)) × ((Nat → Int32)) × ((Nat → Int32)) × Int32 × Int32 × Int32), kF (A 3) (o 4) (A 7) (A 8) (A 9) (o 5) (o 6) (o 10) x1 = some z → gMv yX2_readPart (.code yX2_readPart cX2_readPart 6 none :: gU) ({ frames := 12 + 4 * dd + 0, cells := 0, slots := 0, locals := 400 + 160 * dd + 0 } : Room) 0 0 (g_E Γ) [.ref hb, .int x1] (hw (g_E Γ) hb tx rr N o A) (fun w => w = hw (g_E Γ) hb tx rr N (gu (gu (gu o 5 z.2.2.2.1) 6 z.2.2.2.2.1) 10 z.2.2.2.2.2) (gu (gu (gu A 7 z.1) 8 z.2.1) 9 z.2.2.1))) (K : gOK Γ cX2_readPart gU RX2) (hlt : ∀ i, i < 6 → i < g_n Γ) (hRm : g_R Γ = ({ frames := 12 + 4 * dd + 4, cells := 0, slots := 0, locals := 400 + 160 * dd + 160 } : Room)) {res : ((Nat → Int32)) × ((Nat → Int32)) × ((Nat → Int32)) × Int32 × Int32 × Int32} (hret : ∀ (pc : Nat) (L : List (Nat × Value)) (w : va_W), decode cX2_readPart pc = .ok (.return_, 1) → (w = hw (g_E Γ) hb tx rr N (gu (gu (gu o 5 res.2.2.2.1) 6 res.2.2.2.2.1) 10 res.2.2.2.2.2) (gu (gu (gu A 7 res.1) 8 res.2.1) 9 res.2.2.1)) → gGO Γ 0 0 pc L [] w) (a7 : (Nat → Int32)) (a8 : (Nat → Int32)) (a9 : (Nat → Int32)) (o5 : Int32) (o6 : Int32) (o10 : Int32) (x3 : Int32) (x4 : Int32) (h : pX2_readPartB_156 N kF (A 3) (o 4) a7 a8 a9 o5 o6 o10 x3 x4 = some res) : gGO Γ 0 0 156 [(0, .ref hb), (3, .int x3), (4, .int x4)] [] (hw (g_E Γ) hb tx rr N (gu (gu (gu o 5 o5) 6 o6) 10 o10) (gu (gu (gu A 7 a7) 8 a8) 9 a9)) := by
    unfold pX2_readPartB_156 at h
    refine g_aload_n K dX2_readPart_156 rfl 0 rfl ?_
    obtain ⟨z_1, hz_1, h⟩ := gi_bd h
    refine g_callVi (As := []) (bytes := cX2_readNumber) (maxL := 3) (ret := (some .int)) K (ctX2_readNumber (gu (gu (gu o 5 o5) 6 o6) 10 o10) (gu (gu (gu A 7 a7) 8 a8) 9 a9) (res := z_1) hz_1) gc_V_RX2_85_X2_readNumber rfl qv_X2_readNumber 0 rfl rfl rfl hRm rfl rfl rfl (by constructor <;> (dsimp only; omega)) (Nat.le_of_ble_eq_true rfl) ⟨Nat.le_refl _, Nat.le_refl _⟩ dX2_readPart_157 (fun v w hw => ?_)
    obtain ⟨hv9, rfl⟩ := hw; have hv9 := hv9.symm; subst hv9
    refine g_ws (ws' := hw (g_E Γ) hb tx rr N (gu (gu (gu o 5 z_1.2.1) 6 z_1.2.2) 10 o10) (gu (gu (gu A 7 a7) 8 a8) 9 a9)) rfl ?_
    obtain ⟨v_2, ev_2, h⟩ := gi_nm h
    refine g_topi ev_2 ?_
    refine g_istore (L' := [(5, .int v_2), (0, .ref hb), (3, .int x3), (4, .int x4)]) K dX2_readPart_160 (hlt _ (by decide)) rfl ?_
    refine g_iload K dX2_readPart_162 3 rfl ?_
    refine g_bipush (v := 60) K dX2_readPart_164 (by decide) ?_
    obtain ⟨ht9, hf9⟩ := gi_br h; clear h
    refine g_icmp_ne (tgt := 182) K dX2_readPart_166 (by decide) (fun qh => ?_) (fun qh => ?_)
    · have h := hf9 qh; clear ht9 hf9
      refine g_iload K dX2_readPart_182 3 rfl ?_
      refine g_bipush (v := 61) K dX2_readPart_184 (by decide) ?_
      obtain ⟨ht9, hf9⟩ := gi_br h; clear h
      refine g_icmp_ne (tgt := 201) K dX2_readPart_186 (by decide) (fun qh => ?_) (fun qh => ?_)
      · have h := hf9 qh; clear ht9 hf9
        refine g_aload_n K dX2_readPart_201 rfl 1 rfl ?_
        refine g_iload_n K dX2_readPart_202 rfl 2 rfl ?_
        refine g_iload K dX2_readPart_203 0 rfl ?_
        refine g_iconst (v := 1) K dX2_readPart_205 (by decide) ?_
        refine g_iadd K dX2_readPart_206 ?_
        refine g_sipush (v := 1000) K dX2_readPart_207 (by decide) ?_
        obtain ⟨z_3, hz_3, h⟩ := gi_bd h
        refine g_callVv (As := [.int x3, .int (v_2 + 1), .int 1000]) (bytes := cX2_add) (maxL := 4) (ret := none) K (ctX2_add (gu (gu (gu o 5 z_1.2.1) 6 z_1.2.2) 10 o10) (gu (gu (gu A 7 a7) 8 a8) 9 a9) x3 (v_2 + 1) 1000 (res := z_3) hz_3) gc_V_RX2_92_X2_add rfl qv_X2_add 0 rfl rfl rfl hRm rfl rfl rfl (by constructor <;> (dsimp only; omega)) (Nat.le_of_ble_eq_true rfl) ⟨Nat.le_refl _, Nat.le_refl _⟩ dX2_readPart_210 (fun w hw => ?_)
        subst hw
        refine g_ws (ws' := hw (g_E Γ) hb tx rr N (gu (gu (gu o 5 z_1.2.1) 6 z_1.2.2) 10 z_3.2.2.2) (gu (gu (gu A 7 z_3.1) 8 z_3.2.1) 9 z_3.2.2.1)) rfl ?_
        refine g_goto (tgt := 221) K dX2_readPart_213 (by decide) ?_
        obtain rfl := Option.some.inj h
        exact hret _ _ _ dX2_readPart_221 rfl
      · have h := ht9 qh; clear ht9 hf9
        refine g_aload_n K dX2_readPart_189 rfl 1 rfl ?_
        refine g_iload_n K dX2_readPart_190 rfl 2 rfl ?_
        refine g_iload K dX2_readPart_191 0 rfl ?_
        refine g_iload K dX2_readPart_193 0 rfl ?_
        obtain ⟨z_4, hz_4, h⟩ := gi_bd h
        refine g_callVv (As := [.int x3, .int v_2, .int v_2]) (bytes := cX2_add) (maxL := 4) (ret := none) K (ctX2_add (gu (gu (gu o 5 z_1.2.1) 6 z_1.2.2) 10 o10) (gu (gu (gu A 7 a7) 8 a8) 9 a9) x3 v_2 v_2 (res := z_4) hz_4) gc_V_RX2_92_X2_add rfl qv_X2_add 0 rfl rfl rfl hRm rfl rfl rfl (by constructor <;> (dsimp only; omega)) (Nat.le_of_ble_eq_true rfl) ⟨Nat.le_refl _, Nat.le_refl _⟩ dX2_readPart_195 (fun w hw => ?_)
        subst hw
        refine g_ws (ws' := hw (g_E Γ) hb tx rr N (gu (gu (gu o 5 z_1.2.1) 6 z_1.2.2) 10 z_4.2.2.2) (gu (gu (gu A 7 z_4.1) 8 z_4.2.1) 9 z_4.2.2.1)) rfl ?_
        refine g_goto (tgt := 213) K dX2_readPart_198 (by decide) ?_
        refine g_goto (tgt := 221) K dX2_readPart_213 (by decide) ?_
        obtain rfl := Option.some.inj h
        exact hret _ _ _ dX2_readPart_221 rfl
    · have h := ht9 qh; clear ht9 hf9
      refine g_aload_n K dX2_readPart_169 rfl 1 rfl ?_
      refine g_iload_n K dX2_readPart_170 rfl 2 rfl ?_
      refine g_iconst (v := 0) K dX2_readPart_171 (by decide) ?_
      refine g_iload K dX2_readPart_172 0 rfl ?_
      refine g_iconst (v := 1) K dX2_readPart_174 (by decide) ?_
      refine g_isub K dX2_readPart_175 ?_
      obtain ⟨z_5, hz_5, h⟩ := gi_bd h
      refine g_callVv (As := [.int x3, .int 0, .int (v_2 - 1)]) (bytes := cX2_add) (maxL := 4) (ret := none) K (ctX2_add (gu (gu (gu o 5 z_1.2.1) 6 z_1.2.2) 10 o10) (gu (gu (gu A 7 a7) 8 a8) 9 a9) x3 0 (v_2 - 1) (res := z_5) hz_5) gc_V_RX2_92_X2_add rfl qv_X2_add 0 rfl rfl rfl hRm rfl rfl rfl (by constructor <;> (dsimp only; omega)) (Nat.le_of_ble_eq_true rfl) ⟨Nat.le_refl _, Nat.le_refl _⟩ dX2_readPart_176 (fun w hw => ?_)
      subst hw
      refine g_ws (ws' := hw (g_E Γ) hb tx rr N (gu (gu (gu o 5 z_1.2.1) 6 z_1.2.2) 10 z_5.2.2.2) (gu (gu (gu A 7 z_5.1) 8 z_5.2.1) 9 z_5.2.2.1)) rfl ?_
      refine g_goto (tgt := 213) K dX2_readPart_179 (by decide) ?_
      refine g_goto (tgt := 221) K dX2_readPart_213 (by decide) ?_
      obtain rfl := Option.some.inj h
      exact hret _ _ _ dX2_readPart_221 rfl

set_option maxHeartbeats 4000000 in
set_option maxRecDepth 100000 in
theorem wX2_readPartB_97 {Γ : gT} {hb tx N : Nat} {rr : Nat → Nat} {o : Nat → Int32} {A : Nat → Nat → Int32} {dd : Nat} {kF : (Nat → Int32) → Int32 → (Nat → Int32) → (Nat → Int32) → (Nat → Int32) → Int32 → Int32 → Int32 → Int32 → Option (((Nat → Int32)) × ((Nat → Int32)) × ((Nat → Int32)) × Int32 × Int32 × Int32)} (hkF : ∀ (o : Nat → Int32) (A : Nat → Nat → Int32) (x1 : Int32) (z : ((Nat → Int32)) × ((Nat → Int32)) × ((Nat → Int32)) × Int32 × Int32 × Int32), kF (A 3) (o 4) (A 7) (A 8) (A 9) (o 5) (o 6) (o 10) x1 = some z → gMv yX2_readPart (.code yX2_readPart cX2_readPart 6 none :: gU) ({ frames := 12 + 4 * dd + 0, cells := 0, slots := 0, locals := 400 + 160 * dd + 0 } : Room) 0 0 (g_E Γ) [.ref hb, .int x1] (hw (g_E Γ) hb tx rr N o A) (fun w => w = hw (g_E Γ) hb tx rr N (gu (gu (gu o 5 z.2.2.2.1) 6 z.2.2.2.2.1) 10 z.2.2.2.2.2) (gu (gu (gu A 7 z.1) 8 z.2.1) 9 z.2.2.1))) (K : gOK Γ cX2_readPart gU RX2) (hlt : ∀ i, i < 6 → i < g_n Γ) (hRm : g_R Γ = ({ frames := 12 + 4 * dd + 4, cells := 0, slots := 0, locals := 400 + 160 * dd + 160 } : Room)) {res : ((Nat → Int32)) × ((Nat → Int32)) × ((Nat → Int32)) × Int32 × Int32 × Int32} (hret : ∀ (pc : Nat) (L : List (Nat × Value)) (w : va_W), decode cX2_readPart pc = .ok (.return_, 1) → (w = hw (g_E Γ) hb tx rr N (gu (gu (gu o 5 res.2.2.2.1) 6 res.2.2.2.2.1) 10 res.2.2.2.2.2) (gu (gu (gu A 7 res.1) 8 res.2.1) 9 res.2.2.1)) → gGO Γ 0 0 pc L [] w) (a7 : (Nat → Int32)) (a8 : (Nat → Int32)) (a9 : (Nat → Int32)) (o5 : Int32) (o6 : Int32) (o10 : Int32) (x3 : Int32) (h : pX2_readPartB_97 N kF (A 3) (o 4) a7 a8 a9 o5 o6 o10 x3 = some res) : gGO Γ 0 0 97 [(0, .ref hb), (3, .int x3)] [] (hw (g_E Γ) hb tx rr N (gu (gu (gu o 5 o5) 6 o6) 10 o10) (gu (gu (gu A 7 a7) 8 a8) 9 a9)) := by
    unfold pX2_readPartB_97 at h
    refine g_iload_n K dX2_readPart_97 rfl 1 rfl ?_
    obtain ⟨ht9, hf9⟩ := gi_br h; clear h
    refine g_if_lt (tgt := 216) K dX2_readPart_98 (by decide) (fun qh => ?_) (fun qh => ?_)
    · have h := ht9 qh; clear ht9 hf9
      refine g_aload_n K dX2_readPart_216 rfl 0 rfl ?_
      refine g_iconst (v := 1) K dX2_readPart_217 (by decide) ?_
      refine hp_6 (w' := hw (g_E Γ) hb tx rr N (gu (gu (gu o 5 o5) 6 1) 10 o10) (gu (gu (gu A 7 a7) 8 a8) 9 a9)) K hin_X2 (u_128) (by decide) (by decide) dX2_readPart_218 rfl ?_
      obtain rfl := Option.some.inj h
      exact hret _ _ _ dX2_readPart_221 rfl
    · have h := hf9 qh; clear ht9 hf9
      refine g_aload_n K dX2_readPart_101 rfl 0 rfl ?_
      refine g_dup K dX2_readPart_102 rfl ?_
      refine hg_5 (v := o5) K hin_X2 (u_127) rfl dX2_readPart_103 ?_
      refine g_iconst (v := 1) K dX2_readPart_106 (by decide) ?_
      refine g_iadd K dX2_readPart_107 ?_
      refine hp_5 (w' := hw (g_E Γ) hb tx rr N (gu (gu (gu o 5 (o5 + 1)) 6 o6) 10 o10) (gu (gu (gu A 7 a7) 8 a8) 9 a9)) K hin_X2 (u_127) rfl rfl dX2_readPart_108 rfl ?_
      refine g_aload_n K dX2_readPart_111 rfl 0 rfl ?_
      obtain ⟨z_1, hz_1, h⟩ := gi_bd h
      refine g_callVi (As := []) (bytes := cX2_sign) (maxL := 1) (ret := (some .int)) K (ctX2_sign (gu (gu (gu o 5 (o5 + 1)) 6 o6) 10 o10) (gu (gu (gu A 7 a7) 8 a8) 9 a9) (res := z_1) hz_1) gc_V_RX2_45_X2_sign rfl qv_X2_sign 0 rfl rfl rfl hRm rfl rfl rfl (by constructor <;> (dsimp only; omega)) (Nat.le_of_ble_eq_true rfl) ⟨Nat.le_refl _, Nat.le_refl _⟩ dX2_readPart_112 (fun v w hw => ?_)
      obtain ⟨hv9, rfl⟩ := hw; have hv9 := hv9.symm; subst hv9
      refine g_istore (L' := [(4, .int z_1), (0, .ref hb), (3, .int x3)]) K dX2_readPart_115 (hlt _ (by decide)) rfl ?_
      refine g_iload K dX2_readPart_117 0 rfl ?_
      refine g_bipush (v := 60) K dX2_readPart_119 (by decide) ?_
      obtain ⟨ht9, hf9⟩ := gi_br h; clear h
      refine g_icmp_eq (tgt := 138) K dX2_readPart_121 (by decide) (fun qh => ?_) (fun qh => ?_)
      · have h := ht9 qh; clear ht9 hf9
        refine g_aload_n K dX2_readPart_138 rfl 1 rfl ?_
        refine g_dup K dX2_readPart_139 rfl ?_
        refine hg_5 (v := (o5 + 1)) K hin_X2 (u_127) rfl dX2_readPart_140 ?_
        refine g_iconst (v := 1) K dX2_readPart_143 (by decide) ?_
        refine g_iadd K dX2_readPart_144 ?_
        refine hp_5 (w' := hw (g_E Γ) hb tx rr N (gu (gu (gu o 5 ((o5 + 1) + 1)) 6 o6) 10 o10) (gu (gu (gu A 7 a7) 8 a8) 9 a9)) K hin_X2 (u_127) rfl rfl dX2_readPart_145 rfl ?_
        refine g_goto (tgt := 156) K dX2_readPart_148 (by decide) ?_
        refine g_sub (L' := [(0, .ref hb), (3, .int x3), (4, .int z_1)]) [1, 2, 0] rfl ?_
        exact wX2_readPartB_156 hkF K hlt hRm hret a7 a8 a9 ((o5 + 1) + 1) o6 o10 x3 z_1 h
      · have h := hf9 qh; clear ht9 hf9
        refine g_iload K dX2_readPart_124 0 rfl ?_
        refine g_bipush (v := 61) K dX2_readPart_126 (by decide) ?_
        obtain ⟨ht9, hf9⟩ := gi_br h; clear h
        refine g_icmp_eq (tgt := 138) K dX2_readPart_128 (by decide) (fun qh => ?_) (fun qh => ?_)
        · have h := ht9 qh; clear ht9 hf9
          refine g_aload_n K dX2_readPart_138 rfl 1 rfl ?_
          refine g_dup K dX2_readPart_139 rfl ?_
          refine hg_5 (v := (o5 + 1)) K hin_X2 (u_127) rfl dX2_readPart_140 ?_
          refine g_iconst (v := 1) K dX2_readPart_143 (by decide) ?_
          refine g_iadd K dX2_readPart_144 ?_
          refine hp_5 (w' := hw (g_E Γ) hb tx rr N (gu (gu (gu o 5 ((o5 + 1) + 1)) 6 o6) 10 o10) (gu (gu (gu A 7 a7) 8 a8) 9 a9)) K hin_X2 (u_127) rfl rfl dX2_readPart_145 rfl ?_
          refine g_goto (tgt := 156) K dX2_readPart_148 (by decide) ?_
          refine g_sub (L' := [(0, .ref hb), (3, .int x3), (4, .int z_1)]) [1, 2, 0] rfl ?_
          exact wX2_readPartB_156 hkF K hlt hRm hret a7 a8 a9 ((o5 + 1) + 1) o6 o10 x3 z_1 h
        · have h := hf9 qh; clear ht9 hf9
          refine g_iload K dX2_readPart_131 0 rfl ?_
          refine g_bipush (v := 62) K dX2_readPart_133 (by decide) ?_
          obtain ⟨ht9, hf9⟩ := gi_br h; clear h
          refine g_icmp_ne (tgt := 151) K dX2_readPart_135 (by decide) (fun qh => ?_) (fun qh => ?_)
          · have h := hf9 qh; clear ht9 hf9
            refine g_aload_n K dX2_readPart_151 rfl 1 rfl ?_
            refine g_iconst (v := 1) K dX2_readPart_152 (by decide) ?_
            refine hp_6 (w' := hw (g_E Γ) hb tx rr N (gu (gu (gu o 5 (o5 + 1)) 6 1) 10 o10) (gu (gu (gu A 7 a7) 8 a8) 9 a9)) K hin_X2 (u_128) (by decide) (by decide) dX2_readPart_153 rfl ?_
            refine g_sub (L' := [(0, .ref hb), (3, .int x3), (4, .int z_1)]) [1, 2, 0] rfl ?_
            exact wX2_readPartB_156 hkF K hlt hRm hret a7 a8 a9 (o5 + 1) 1 o10 x3 z_1 h
          · have h := ht9 qh; clear ht9 hf9
            refine g_aload_n K dX2_readPart_138 rfl 1 rfl ?_
            refine g_dup K dX2_readPart_139 rfl ?_
            refine hg_5 (v := (o5 + 1)) K hin_X2 (u_127) rfl dX2_readPart_140 ?_
            refine g_iconst (v := 1) K dX2_readPart_143 (by decide) ?_
            refine g_iadd K dX2_readPart_144 ?_
            refine hp_5 (w' := hw (g_E Γ) hb tx rr N (gu (gu (gu o 5 ((o5 + 1) + 1)) 6 o6) 10 o10) (gu (gu (gu A 7 a7) 8 a8) 9 a9)) K hin_X2 (u_127) rfl rfl dX2_readPart_145 rfl ?_
            refine g_goto (tgt := 156) K dX2_readPart_148 (by decide) ?_
            refine g_sub (L' := [(0, .ref hb), (3, .int x3), (4, .int z_1)]) [1, 2, 0] rfl ?_
            exact wX2_readPartB_156 hkF K hlt hRm hret a7 a8 a9 ((o5 + 1) + 1) o6 o10 x3 z_1 h

set_option maxHeartbeats 4000000 in
set_option maxRecDepth 100000 in
theorem wX2_readPartB_59 {Γ : gT} {hb tx N : Nat} {rr : Nat → Nat} {o : Nat → Int32} {A : Nat → Nat → Int32} {dd : Nat} {kF : (Nat → Int32) → Int32 → (Nat → Int32) → (Nat → Int32) → (Nat → Int32) → Int32 → Int32 → Int32 → Int32 → Option (((Nat → Int32)) × ((Nat → Int32)) × ((Nat → Int32)) × Int32 × Int32 × Int32)} (hkF : ∀ (o : Nat → Int32) (A : Nat → Nat → Int32) (x1 : Int32) (z : ((Nat → Int32)) × ((Nat → Int32)) × ((Nat → Int32)) × Int32 × Int32 × Int32), kF (A 3) (o 4) (A 7) (A 8) (A 9) (o 5) (o 6) (o 10) x1 = some z → gMv yX2_readPart (.code yX2_readPart cX2_readPart 6 none :: gU) ({ frames := 12 + 4 * dd + 0, cells := 0, slots := 0, locals := 400 + 160 * dd + 0 } : Room) 0 0 (g_E Γ) [.ref hb, .int x1] (hw (g_E Γ) hb tx rr N o A) (fun w => w = hw (g_E Γ) hb tx rr N (gu (gu (gu o 5 z.2.2.2.1) 6 z.2.2.2.2.1) 10 z.2.2.2.2.2) (gu (gu (gu A 7 z.1) 8 z.2.1) 9 z.2.2.1))) (K : gOK Γ cX2_readPart gU RX2) (hlt : ∀ i, i < 6 → i < g_n Γ) (hRm : g_R Γ = ({ frames := 12 + 4 * dd + 4, cells := 0, slots := 0, locals := 400 + 160 * dd + 160 } : Room)) {res : ((Nat → Int32)) × ((Nat → Int32)) × ((Nat → Int32)) × Int32 × Int32 × Int32} (hret : ∀ (pc : Nat) (L : List (Nat × Value)) (w : va_W), decode cX2_readPart pc = .ok (.return_, 1) → (w = hw (g_E Γ) hb tx rr N (gu (gu (gu o 5 res.2.2.2.1) 6 res.2.2.2.2.1) 10 res.2.2.2.2.2) (gu (gu (gu A 7 res.1) 8 res.2.1) 9 res.2.2.1)) → gGO Γ 0 0 pc L [] w) (a7 : (Nat → Int32)) (a8 : (Nat → Int32)) (a9 : (Nat → Int32)) (o5 : Int32) (o6 : Int32) (o10 : Int32) (x1 : Int32) (x2 : Int32) (x3 : Int32) (h : pX2_readPartB_59 N kF (A 3) (o 4) a7 a8 a9 o5 o6 o10 x1 x2 x3 = some res) : gGO Γ 0 0 59 [(0, .ref hb), (1, .int x1), (2, .int x2), (3, .int x3)] [] (hw (g_E Γ) hb tx rr N (gu (gu (gu o 5 o5) 6 o6) 10 o10) (gu (gu (gu A 7 a7) 8 a8) 9 a9)) := by
    unfold pX2_readPartB_59 at h
    refine g_iload_n K dX2_readPart_59 rfl 2 rfl ?_
    refine g_bipush (v := 40) K dX2_readPart_60 (by decide) ?_
    obtain ⟨ht9, hf9⟩ := gi_br h; clear h
    refine g_icmp_ne (tgt := 97) K dX2_readPart_62 (by decide) (fun qh => ?_) (fun qh => ?_)
    · have h := hf9 qh; clear ht9 hf9
      refine g_sub (L' := [(0, .ref hb), (3, .int x3)]) [0, 3] rfl ?_
      exact wX2_readPartB_97 hkF K hlt hRm hret a7 a8 a9 o5 o6 o10 x3 h
    · have h := ht9 qh; clear ht9 hf9
      refine g_iload_n K dX2_readPart_65 rfl 1 rfl ?_
      refine g_iconst (v := 5) K dX2_readPart_66 (by decide) ?_
      obtain ⟨ht9, hf9⟩ := gi_br h; clear h
      refine g_icmp_ge (tgt := 97) K dX2_readPart_67 (by decide) (fun qh => ?_) (fun qh => ?_)
      · have h := ht9 qh; clear ht9 hf9
        refine g_sub (L' := [(0, .ref hb), (3, .int x3)]) [0, 3] rfl ?_
        exact wX2_readPartB_97 hkF K hlt hRm hret a7 a8 a9 o5 o6 o10 x3 h
      · have h := hf9 qh; clear ht9 hf9
        refine g_aload_n K dX2_readPart_70 rfl 0 rfl ?_
        refine g_dup K dX2_readPart_71 rfl ?_
        refine hg_5 (v := o5) K hin_X2 (u_127) rfl dX2_readPart_72 ?_
        refine g_iconst (v := 1) K dX2_readPart_75 (by decide) ?_
        refine g_iadd K dX2_readPart_76 ?_
        refine hp_5 (w' := hw (g_E Γ) hb tx rr N (gu (gu (gu o 5 (o5 + 1)) 6 o6) 10 o10) (gu (gu (gu A 7 a7) 8 a8) 9 a9)) K hin_X2 (u_127) rfl rfl dX2_readPart_77 rfl ?_
        refine g_aload_n K dX2_readPart_80 rfl 0 rfl ?_
        refine g_iload_n K dX2_readPart_81 rfl 1 rfl ?_
        refine g_iconst (v := 1) K dX2_readPart_82 (by decide) ?_
        refine g_iadd K dX2_readPart_83 ?_
        obtain ⟨z_1, hz_1, h⟩ := gi_bd h
        refine g_callVv (As := [.int (x1 + 1)]) (bytes := cX2_readEither) (maxL := 3) (ret := none) K (ctX2_readEither (dd := dd) hkF (gu (gu (gu o 5 (o5 + 1)) 6 o6) 10 o10) (gu (gu (gu A 7 a7) 8 a8) 9 a9) (x1 + 1) (res := z_1) hz_1) gc_V_RX2_88_X2_readEither rfl qv_X2_readEither 0 rfl rfl rfl hRm rfl rfl rfl (by constructor <;> (dsimp only; omega)) (Nat.le_of_ble_eq_true rfl) ⟨Nat.le_refl _, Nat.le_refl _⟩ dX2_readPart_84 (fun w hw => ?_)
        subst hw
        refine g_ws (ws' := hw (g_E Γ) hb tx rr N (gu (gu (gu o 5 z_1.2.2.2.1) 6 z_1.2.2.2.2.1) 10 z_1.2.2.2.2.2) (gu (gu (gu A 7 z_1.1) 8 z_1.2.1) 9 z_1.2.2.1)) rfl ?_
        refine g_aload_n K dX2_readPart_87 rfl 0 rfl ?_
        refine g_bipush (v := 41) K dX2_readPart_88 (by decide) ?_
        obtain ⟨z_2, hz_2, h⟩ := gi_bd h
        refine g_callVi (As := [.int 41]) (bytes := cX2_take) (maxL := 2) (ret := (some .boolean)) K (ctX2_take (gu (gu (gu o 5 z_1.2.2.2.1) 6 z_1.2.2.2.2.1) 10 z_1.2.2.2.2.2) (gu (gu (gu A 7 z_1.1) 8 z_1.2.1) 9 z_1.2.2.1) 41 (res := z_2) hz_2) gc_V_RX2_74_X2_take rfl qv_X2_take 0 rfl rfl rfl hRm rfl rfl rfl (by constructor <;> (dsimp only; omega)) (Nat.le_of_ble_eq_true rfl) ⟨Nat.le_refl _, Nat.le_refl _⟩ dX2_readPart_90 (fun v w hw => ?_)
        obtain ⟨hv9, rfl⟩ := hw; have hv9 := hv9.symm; subst hv9
        refine g_ws (ws' := hw (g_E Γ) hb tx rr N (gu (gu (gu o 5 z_2.2.1) 6 z_2.2.2) 10 z_1.2.2.2.2.2) (gu (gu (gu A 7 z_1.1) 8 z_1.2.1) 9 z_1.2.2.1)) rfl ?_
        refine g_pop K dX2_readPart_93 rfl ?_
        refine g_goto (tgt := 221) K dX2_readPart_94 (by decide) ?_
        obtain rfl := Option.some.inj h
        exact hret _ _ _ dX2_readPart_221 rfl

set_option maxHeartbeats 4000000 in
set_option maxRecDepth 100000 in
theorem wX2_readPartB_20 {Γ : gT} {hb tx N : Nat} {rr : Nat → Nat} {o : Nat → Int32} {A : Nat → Nat → Int32} {dd : Nat} {kF : (Nat → Int32) → Int32 → (Nat → Int32) → (Nat → Int32) → (Nat → Int32) → Int32 → Int32 → Int32 → Int32 → Option (((Nat → Int32)) × ((Nat → Int32)) × ((Nat → Int32)) × Int32 × Int32 × Int32)} (hkF : ∀ (o : Nat → Int32) (A : Nat → Nat → Int32) (x1 : Int32) (z : ((Nat → Int32)) × ((Nat → Int32)) × ((Nat → Int32)) × Int32 × Int32 × Int32), kF (A 3) (o 4) (A 7) (A 8) (A 9) (o 5) (o 6) (o 10) x1 = some z → gMv yX2_readPart (.code yX2_readPart cX2_readPart 6 none :: gU) ({ frames := 12 + 4 * dd + 0, cells := 0, slots := 0, locals := 400 + 160 * dd + 0 } : Room) 0 0 (g_E Γ) [.ref hb, .int x1] (hw (g_E Γ) hb tx rr N o A) (fun w => w = hw (g_E Γ) hb tx rr N (gu (gu (gu o 5 z.2.2.2.1) 6 z.2.2.2.2.1) 10 z.2.2.2.2.2) (gu (gu (gu A 7 z.1) 8 z.2.1) 9 z.2.2.1))) (K : gOK Γ cX2_readPart gU RX2) (hlt : ∀ i, i < 6 → i < g_n Γ) (hRm : g_R Γ = ({ frames := 12 + 4 * dd + 4, cells := 0, slots := 0, locals := 400 + 160 * dd + 160 } : Room)) {res : ((Nat → Int32)) × ((Nat → Int32)) × ((Nat → Int32)) × Int32 × Int32 × Int32} (hret : ∀ (pc : Nat) (L : List (Nat × Value)) (w : va_W), decode cX2_readPart pc = .ok (.return_, 1) → (w = hw (g_E Γ) hb tx rr N (gu (gu (gu o 5 res.2.2.2.1) 6 res.2.2.2.2.1) 10 res.2.2.2.2.2) (gu (gu (gu A 7 res.1) 8 res.2.1) 9 res.2.2.1)) → gGO Γ 0 0 pc L [] w) (a7 : (Nat → Int32)) (a8 : (Nat → Int32)) (a9 : (Nat → Int32)) (o5 : Int32) (o6 : Int32) (o10 : Int32) (x1 : Int32) (x2 : Int32) (y0 : Int32) (h : pX2_readPartB_20 N kF (A 3) (o 4) a7 a8 a9 o5 o6 o10 x1 x2 y0 = some res) : gGO Γ 0 0 20 [(0, .ref hb), (1, .int x1), (2, .int x2)] [.int y0] (hw (g_E Γ) hb tx rr N (gu (gu (gu o 5 o5) 6 o6) 10 o10) (gu (gu (gu A 7 a7) 8 a8) 9 a9)) := by
    unfold pX2_readPartB_20 at h
    refine g_istore_n (L' := [(3, .int y0), (0, .ref hb), (1, .int x1), (2, .int x2)]) K dX2_readPart_20 rfl (hlt _ (by decide)) rfl ?_
    refine g_iload_n K dX2_readPart_21 rfl 3 rfl ?_
    refine g_bipush (v := 33) K dX2_readPart_22 (by decide) ?_
    obtain ⟨ht9, hf9⟩ := gi_br h; clear h
    refine g_icmp_ne (tgt := 59) K dX2_readPart_24 (by decide) (fun qh => ?_) (fun qh => ?_)
    · have h := hf9 qh; clear ht9 hf9
      refine g_sub (L' := [(0, .ref hb), (1, .int x1), (2, .int x2), (3, .int y0)]) [1, 2, 3, 0] rfl ?_
      exact wX2_readPartB_59 hkF K hlt hRm hret a7 a8 a9 o5 o6 o10 x1 x2 y0 h
    · have h := ht9 qh; clear ht9 hf9
      refine g_iload_n K dX2_readPart_27 rfl 2 rfl ?_
      refine g_iconst (v := 5) K dX2_readPart_28 (by decide) ?_
      obtain ⟨ht9, hf9⟩ := gi_br h; clear h
      refine g_icmp_ge (tgt := 59) K dX2_readPart_29 (by decide) (fun qh => ?_) (fun qh => ?_)
      · have h := ht9 qh; clear ht9 hf9
        refine g_sub (L' := [(0, .ref hb), (1, .int x1), (2, .int x2), (3, .int y0)]) [1, 2, 3, 0] rfl ?_
        exact wX2_readPartB_59 hkF K hlt hRm hret a7 a8 a9 o5 o6 o10 x1 x2 y0 h
      · have h := hf9 qh; clear ht9 hf9
        refine g_aload_n K dX2_readPart_32 rfl 1 rfl ?_
        refine g_dup K dX2_readPart_33 rfl ?_
        refine hg_5 (v := o5) K hin_X2 (u_127) rfl dX2_readPart_34 ?_
        refine g_iconst (v := 1) K dX2_readPart_37 (by decide) ?_
        refine g_iadd K dX2_readPart_38 ?_
        refine hp_5 (w' := hw (g_E Γ) hb tx rr N (gu (gu (gu o 5 (o5 + 1)) 6 o6) 10 o10) (gu (gu (gu A 7 a7) 8 a8) 9 a9)) K hin_X2 (u_127) rfl rfl dX2_readPart_39 rfl ?_
        refine g_aload_n K dX2_readPart_42 rfl 1 rfl ?_
        refine g_iload_n K dX2_readPart_43 rfl 2 rfl ?_
        refine g_iconst (v := 1) K dX2_readPart_44 (by decide) ?_
        refine g_iadd K dX2_readPart_45 ?_
        obtain ⟨z_1, hz_1, h⟩ := gi_bd h
        refine g_callVv (As := [.int (x1 + 1)]) (bytes := cX2_readPart) (maxL := 6) (ret := none) K (hkF (gu (gu (gu o 5 (o5 + 1)) 6 o6) 10 o10) (gu (gu (gu A 7 a7) 8 a8) 9 a9) (x1 + 1) z_1 hz_1) gc_V_RX2_99_X2_readPart rfl qv_X2_readPart 0 rfl rfl rfl hRm rfl rfl rfl (by constructor <;> (dsimp only; omega)) (Nat.le_of_ble_eq_true rfl) ⟨Nat.le_refl _, Nat.le_refl _⟩ dX2_readPart_46 (fun w hw => ?_)
        subst hw
        refine g_ws (ws' := hw (g_E Γ) hb tx rr N (gu (gu (gu o 5 z_1.2.2.2.1) 6 z_1.2.2.2.2.1) 10 z_1.2.2.2.2.2) (gu (gu (gu A 7 z_1.1) 8 z_1.2.1) 9 z_1.2.2.1)) rfl ?_
        refine g_aload_n K dX2_readPart_49 rfl 1 rfl ?_
        refine g_iconst (v := (-1)) K dX2_readPart_50 (by decide) ?_
        refine g_iconst (v := 0) K dX2_readPart_51 (by decide) ?_
        refine g_iconst (v := 0) K dX2_readPart_52 (by decide) ?_
        obtain ⟨z_2, hz_2, h⟩ := gi_bd h
        refine g_callVv (As := [.int (-1), .int 0, .int 0]) (bytes := cX2_add) (maxL := 4) (ret := none) K (ctX2_add (gu (gu (gu o 5 z_1.2.2.2.1) 6 z_1.2.2.2.2.1) 10 z_1.2.2.2.2.2) (gu (gu (gu A 7 z_1.1) 8 z_1.2.1) 9 z_1.2.2.1) (-1) 0 0 (res := z_2) hz_2) gc_V_RX2_92_X2_add rfl qv_X2_add 0 rfl rfl rfl hRm rfl rfl rfl (by constructor <;> (dsimp only; omega)) (Nat.le_of_ble_eq_true rfl) ⟨Nat.le_refl _, Nat.le_refl _⟩ dX2_readPart_53 (fun w hw => ?_)
        subst hw
        refine g_ws (ws' := hw (g_E Γ) hb tx rr N (gu (gu (gu o 5 z_1.2.2.2.1) 6 z_1.2.2.2.2.1) 10 z_2.2.2.2) (gu (gu (gu A 7 z_2.1) 8 z_2.2.1) 9 z_2.2.2.1)) rfl ?_
        refine g_goto (tgt := 221) K dX2_readPart_56 (by decide) ?_
        obtain rfl := Option.some.inj h
        exact hret _ _ _ dX2_readPart_221 rfl

set_option maxHeartbeats 4000000 in
set_option maxRecDepth 100000 in
theorem wX2_readPartB {Γ : gT} {hb tx N : Nat} {rr : Nat → Nat} {o : Nat → Int32} {A : Nat → Nat → Int32} {dd : Nat} {kF : (Nat → Int32) → Int32 → (Nat → Int32) → (Nat → Int32) → (Nat → Int32) → Int32 → Int32 → Int32 → Int32 → Option (((Nat → Int32)) × ((Nat → Int32)) × ((Nat → Int32)) × Int32 × Int32 × Int32)} (hkF : ∀ (o : Nat → Int32) (A : Nat → Nat → Int32) (x1 : Int32) (z : ((Nat → Int32)) × ((Nat → Int32)) × ((Nat → Int32)) × Int32 × Int32 × Int32), kF (A 3) (o 4) (A 7) (A 8) (A 9) (o 5) (o 6) (o 10) x1 = some z → gMv yX2_readPart (.code yX2_readPart cX2_readPart 6 none :: gU) ({ frames := 12 + 4 * dd + 0, cells := 0, slots := 0, locals := 400 + 160 * dd + 0 } : Room) 0 0 (g_E Γ) [.ref hb, .int x1] (hw (g_E Γ) hb tx rr N o A) (fun w => w = hw (g_E Γ) hb tx rr N (gu (gu (gu o 5 z.2.2.2.1) 6 z.2.2.2.2.1) 10 z.2.2.2.2.2) (gu (gu (gu A 7 z.1) 8 z.2.1) 9 z.2.2.1))) (K : gOK Γ cX2_readPart gU RX2) (hlt : ∀ i, i < 6 → i < g_n Γ) (hRm : g_R Γ = ({ frames := 12 + 4 * dd + 4, cells := 0, slots := 0, locals := 400 + 160 * dd + 160 } : Room)) {res : ((Nat → Int32)) × ((Nat → Int32)) × ((Nat → Int32)) × Int32 × Int32 × Int32} (hret : ∀ (pc : Nat) (L : List (Nat × Value)) (w : va_W), decode cX2_readPart pc = .ok (.return_, 1) → (w = hw (g_E Γ) hb tx rr N (gu (gu (gu o 5 res.2.2.2.1) 6 res.2.2.2.2.1) 10 res.2.2.2.2.2) (gu (gu (gu A 7 res.1) 8 res.2.1) 9 res.2.2.1)) → gGO Γ 0 0 pc L [] w) (a7 : (Nat → Int32)) (a8 : (Nat → Int32)) (a9 : (Nat → Int32)) (o5 : Int32) (o6 : Int32) (o10 : Int32) (x1 : Int32) (h : pX2_readPartB N kF (A 3) (o 4) a7 a8 a9 o5 o6 o10 x1 = some res) : gGO Γ 0 0 0 [(0, .ref hb), (1, .int x1)] [] (hw (g_E Γ) hb tx rr N (gu (gu (gu o 5 o5) 6 o6) 10 o10) (gu (gu (gu A 7 a7) 8 a8) 9 a9)) := by
    unfold pX2_readPartB at h
    refine g_aload_n K dX2_readPart_0 rfl 0 rfl ?_
    obtain ⟨z_1, hz_1, h⟩ := gi_bd h
    refine g_callVi (As := []) (bytes := cX2_sign) (maxL := 1) (ret := (some .int)) K (ctX2_sign (gu (gu (gu o 5 o5) 6 o6) 10 o10) (gu (gu (gu A 7 a7) 8 a8) 9 a9) (res := z_1) hz_1) gc_V_RX2_45_X2_sign rfl qv_X2_sign 0 rfl rfl rfl hRm rfl rfl rfl (by constructor <;> (dsimp only; omega)) (Nat.le_of_ble_eq_true rfl) ⟨Nat.le_refl _, Nat.le_refl _⟩ dX2_readPart_1 (fun v w hw => ?_)
    obtain ⟨hv9, rfl⟩ := hw; have hv9 := hv9.symm; subst hv9
    refine g_istore_n (L' := [(2, .int z_1), (0, .ref hb), (1, .int x1)]) K dX2_readPart_4 rfl (hlt _ (by decide)) rfl ?_
    refine g_iload_n K dX2_readPart_5 rfl 0 rfl ?_
    obtain ⟨ht9, hf9⟩ := gi_br h; clear h
    refine g_if_ge (tgt := 13) K dX2_readPart_6 (by decide) (fun qh => ?_) (fun qh => ?_)
    · have h := ht9 qh; clear ht9 hf9
      refine g_ldcS (tx := "wckbyt") K 1 (by decide +kernel) dX2_readPart_13 ?_
      refine g_iload_n K dX2_readPart_15 rfl 0 rfl ?_
      refine g_i2c K dX2_readPart_16 ?_
      obtain ⟨z_2, hz_2, h⟩ := gi_bd h
      refine g_callViK (As := [.int (UInt32.toInt32 (Int32.toUInt32 z_1 % 65536))]) (bytes := cJ0_indexOf_0f7a4) (maxL := 2) (ret := (some .int)) K (ctJ0_indexOf_0f7a4 (ws := hw (g_E Γ) hb tx rr N (gu (gu (gu o 5 o5) 6 o6) 10 o10) (gu (gu (gu A 7 a7) 8 a8) 9 a9)) (i0 := 1) (by decide) (UInt32.toInt32 (Int32.toUInt32 z_1 % 65536)) (res := z_2) hz_2) gc_V_RX2_104_J0_indexOf_0f7a4 rfl qv_J0_indexOf_0f7a4 (by decide) hRm rfl rfl rfl (by constructor <;> (dsimp only; omega)) (Nat.le_of_ble_eq_true rfl) ⟨Nat.le_refl _, Nat.le_refl _⟩ dX2_readPart_17 (fun v w hw => ?_)
      obtain ⟨hv9, rfl⟩ := hw; have hv9 := hv9.symm; subst hv9
      refine g_sub (L' := [(0, .ref hb), (1, .int x1), (2, .int z_1)]) [1, 2, 0] rfl ?_
      exact wX2_readPartB_20 hkF K hlt hRm hret a7 a8 a9 o5 o6 o10 x1 z_1 z_2 h
    · have h := hf9 qh; clear ht9 hf9
      refine g_iconst (v := (-1)) K dX2_readPart_9 (by decide) ?_
      refine g_goto (tgt := 20) K dX2_readPart_10 (by decide) ?_
      refine g_sub (L' := [(0, .ref hb), (1, .int x1), (2, .int z_1)]) [1, 2, 0] rfl ?_
      exact wX2_readPartB_20 hkF K hlt hRm hret a7 a8 a9 o5 o6 o10 x1 z_1 (-1) h

set_option maxRecDepth 100000 in
theorem ctX2_readPartB {E : gE} {hb tx N : Nat} {rr : Nat → Nat} {dd : Nat} {kF : (Nat → Int32) → Int32 → (Nat → Int32) → (Nat → Int32) → (Nat → Int32) → Int32 → Int32 → Int32 → Int32 → Option (((Nat → Int32)) × ((Nat → Int32)) × ((Nat → Int32)) × Int32 × Int32 × Int32)} (hkF : ∀ (o : Nat → Int32) (A : Nat → Nat → Int32) (x1 : Int32) (z : ((Nat → Int32)) × ((Nat → Int32)) × ((Nat → Int32)) × Int32 × Int32 × Int32), kF (A 3) (o 4) (A 7) (A 8) (A 9) (o 5) (o 6) (o 10) x1 = some z → gMv yX2_readPart (.code yX2_readPart cX2_readPart 6 none :: gU) ({ frames := 12 + 4 * dd + 0, cells := 0, slots := 0, locals := 400 + 160 * dd + 0 } : Room) 0 0 E [.ref hb, .int x1] (hw E hb tx rr N o A) (fun w => w = hw E hb tx rr N (gu (gu (gu o 5 z.2.2.2.1) 6 z.2.2.2.2.1) 10 z.2.2.2.2.2) (gu (gu (gu A 7 z.1) 8 z.2.1) 9 z.2.2.1))) (o : Nat → Int32) (A : Nat → Nat → Int32) (x1 : Int32) {res : ((Nat → Int32)) × ((Nat → Int32)) × ((Nat → Int32)) × Int32 × Int32 × Int32} (h : pX2_readPartB N kF (A 3) (o 4) (A 7) (A 8) (A 9) (o 5) (o 6) (o 10) x1 = some res) : gMv yX2_readPart (.code yX2_readPart cX2_readPart 6 none :: gU) ({ frames := 12 + 4 * dd + 4, cells := 0, slots := 0, locals := 400 + 160 * dd + 160 } : Room) 0 0 E [.ref hb, .int x1] (hw E hb tx rr N o A) (fun w => w = hw E hb tx rr N (gu (gu (gu o 5 res.2.2.2.1) 6 res.2.2.2.2.1) 10 res.2.2.2.2.2) (gu (gu (gu A 7 res.1) 8 res.2.1) 9 res.2.2.1)) := by
  refine g_met_v (by decide +kernel) (Nat.le_of_ble_eq_true rfl) (fun Γ K hn hE hRm _ hret => ?_)
  subst hE
  have hlt : ∀ i, i < 6 → i < g_n Γ := fun i q => by rw [hn]; exact q
  refine g_ws (ws' := hw (g_E Γ) hb tx rr N (gu (gu (gu o 5 (o 5)) 6 (o 6)) 10 (o 10)) (gu (gu (gu A 7 (A 7)) 8 (A 8)) 9 (A 9))) rfl ?_
  refine g_sub (L' := [(0, .ref hb), (1, .int x1)]) [0, 1] rfl ?_
  exact wX2_readPartB hkF K hlt hRm hret (A 7) (A 8) (A 9) (o 5) (o 6) (o 10) x1 h

theorem ctX2_readPartN {E : gE} {hb tx N : Nat} {rr : Nat → Nat} : ∀ (dd : Nat) (o : Nat → Int32) (A : Nat → Nat → Int32) (x1 : Int32) {res : ((Nat → Int32)) × ((Nat → Int32)) × ((Nat → Int32)) × Int32 × Int32 × Int32} (h : pX2_readPart N dd (A 3) (o 4) (A 7) (A 8) (A 9) (o 5) (o 6) (o 10) x1 = some res), gMv yX2_readPart (.code yX2_readPart cX2_readPart 6 none :: gU) ({ frames := 12 + 4 * dd + 0, cells := 0, slots := 0, locals := 400 + 160 * dd + 0 } : Room) 0 0 E [.ref hb, .int x1] (hw E hb tx rr N o A) (fun w => w = hw E hb tx rr N (gu (gu (gu o 5 res.2.2.2.1) 6 res.2.2.2.2.1) 10 res.2.2.2.2.2) (gu (gu (gu A 7 res.1) 8 res.2.1) 9 res.2.2.1)) := by
  intro dd
  induction dd with
  | zero => intro o A x1 res h; cases h
  | succ dd ih =>
    intro o A x1 res h
    have z := ctX2_readPartB (E := E) (dd := dd) (hb := hb) (tx := tx) (N := N) (rr := rr) (kF := pX2_readPart N dd) (fun o A x1 z h => ih o A x1 h) o A x1 (res := res) h
    rw [show 12 + 4 * (dd + 1) + 0 = 12 + 4 * dd + 4 by omega, show 400 + 160 * (dd + 1) + 0 = 400 + 160 * dd + 160 by omega]
    exact z

set_option maxHeartbeats 4000000 in
set_option maxRecDepth 100000 in
theorem wX2_readGain_s2 {Γ : gT} {hb tx N : Nat} {rr : Nat → Nat} {o : Nat → Int32} {A : Nat → Nat → Int32} (K : gOK Γ cX2_readGain gU RX2) (hlt : ∀ i, i < 4 → i < g_n Γ) (hRm : g_R Γ = ({ frames := 47, cells := 0, slots := 0, locals := 1782 } : Room)) {res : ((Nat → Int32)) × ((Nat → Int32)) × ((Nat → Int32)) × Int32 × Int32 × Int32} (hret : ∀ (pc : Nat) (L : List (Nat × Value)) (w : va_W), decode cX2_readGain pc = .ok (.return_, 1) → (w = hw (g_E Γ) hb tx rr N (gu (gu (gu o 5 res.2.2.2.1) 6 res.2.2.2.2.1) 10 res.2.2.2.2.2) (gu (gu (gu A 7 res.1) 8 res.2.1) 9 res.2.2.1)) → gGO Γ 0 0 pc L [] w) (a7 : (Nat → Int32)) (a8 : (Nat → Int32)) (a9 : (Nat → Int32)) (o5 : Int32) (o6 : Int32) (o10 : Int32) (x2 : Int32) (h : pX2_readGain_s2 N (A 3) (o 4) a7 a8 a9 o5 o6 o10 x2 = some res) : gGO Γ 0 0 0 [(0, .ref hb), (1, .ref (gK (g_E Γ) 2)), (2, .int x2)] [] (hw (g_E Γ) hb tx rr N (gu (gu (gu o 5 o5) 6 o6) 10 o10) (gu (gu (gu A 7 a7) 8 a8) 9 a9)) := by
    unfold pX2_readGain_s2 at h
    refine g_aload_n K dX2_readGain_0 rfl 0 rfl ?_
    refine g_aload_n K dX2_readGain_1 rfl 1 rfl ?_
    obtain ⟨z_1, hz_1, h⟩ := gi_bd h
    refine g_callVv (As := [.ref (gK (g_E Γ) 2)]) (bytes := cX2_takeAll) (maxL := 3) (ret := none) K (ctX2_takeAll_s2 (gu (gu (gu o 5 o5) 6 o6) 10 o10) (gu (gu (gu A 7 a7) 8 a8) 9 a9) (res := z_1) hz_1) gc_V_RX2_81_X2_takeAll rfl qv_X2_takeAll 0 rfl rfl rfl hRm rfl rfl rfl (by decide) (Nat.le_of_ble_eq_true rfl) (by decide) dX2_readGain_2 (fun w hw => ?_)
    subst hw
    refine g_ws (ws' := hw (g_E Γ) hb tx rr N (gu (gu (gu o 5 z_1.1) 6 z_1.2) 10 o10) (gu (gu (gu A 7 a7) 8 a8) 9 a9)) rfl ?_
    refine g_aload_n K dX2_readGain_5 rfl 0 rfl ?_
    obtain ⟨z_2, hz_2, h⟩ := gi_bd h
    refine g_callVi (As := []) (bytes := cX2_readNumber) (maxL := 3) (ret := (some .int)) K (ctX2_readNumber (gu (gu (gu o 5 z_1.1) 6 z_1.2) 10 o10) (gu (gu (gu A 7 a7) 8 a8) 9 a9) (res := z_2) hz_2) gc_V_RX2_85_X2_readNumber rfl qv_X2_readNumber 0 rfl rfl rfl hRm rfl rfl rfl (by decide) (Nat.le_of_ble_eq_true rfl) (by decide) dX2_readGain_6 (fun v w hw => ?_)
    obtain ⟨hv9, rfl⟩ := hw; have hv9 := hv9.symm; subst hv9
    refine g_ws (ws' := hw (g_E Γ) hb tx rr N (gu (gu (gu o 5 z_2.2.1) 6 z_2.2.2) 10 o10) (gu (gu (gu A 7 a7) 8 a8) 9 a9)) rfl ?_
    obtain ⟨v_3, ev_3, h⟩ := gi_nm h
    refine g_topi ev_3 ?_
    refine g_istore_n (L' := [(3, .int v_3), (0, .ref hb), (1, .ref (gK (g_E Γ) 2)), (2, .int x2)]) K dX2_readGain_9 rfl (hlt _ (by decide)) rfl ?_
    refine g_aload_n K dX2_readGain_10 rfl 1 rfl ?_
    refine g_bipush (v := 32) K dX2_readGain_11 (by decide) ?_
    obtain ⟨z_4, hz_4, h⟩ := gi_bd h
    refine g_callVi (As := [.int 32]) (bytes := cX2_take) (maxL := 2) (ret := (some .boolean)) K (ctX2_take (gu (gu (gu o 5 z_2.2.1) 6 z_2.2.2) 10 o10) (gu (gu (gu A 7 a7) 8 a8) 9 a9) 32 (res := z_4) hz_4) gc_V_RX2_74_X2_take rfl qv_X2_take 0 rfl rfl rfl hRm rfl rfl rfl (by decide) (Nat.le_of_ble_eq_true rfl) (by decide) dX2_readGain_13 (fun v w hw => ?_)
    obtain ⟨hv9, rfl⟩ := hw; have hv9 := hv9.symm; subst hv9
    refine g_ws (ws' := hw (g_E Γ) hb tx rr N (gu (gu (gu o 5 z_4.2.1) 6 z_4.2.2) 10 o10) (gu (gu (gu A 7 a7) 8 a8) 9 a9)) rfl ?_
    refine g_pop K dX2_readGain_16 rfl ?_
    refine g_aload_n K dX2_readGain_17 rfl 1 rfl ?_
    refine g_iconst (v := 0) K dX2_readGain_18 (by decide) ?_
    obtain ⟨z_5, hz_5, h⟩ := gi_bd h
    refine g_callVv (As := [.int 0]) (bytes := cX2_readEither) (maxL := 3) (ret := none) K (ctX2_readEither (dd := 8) (fun o A x1 z h => ctX2_readPartN 8 o A x1 (res := z) h) (gu (gu (gu o 5 z_4.2.1) 6 z_4.2.2) 10 o10) (gu (gu (gu A 7 a7) 8 a8) 9 a9) 0 (res := z_5) hz_5) gc_V_RX2_88_X2_readEither rfl qv_X2_readEither 0 rfl rfl rfl hRm rfl rfl rfl (by decide) (Nat.le_of_ble_eq_true rfl) (by decide) dX2_readGain_19 (fun w hw => ?_)
    subst hw
    refine g_ws (ws' := hw (g_E Γ) hb tx rr N (gu (gu (gu o 5 z_5.2.2.2.1) 6 z_5.2.2.2.2.1) 10 z_5.2.2.2.2.2) (gu (gu (gu A 7 z_5.1) 8 z_5.2.1) 9 z_5.2.2.1)) rfl ?_
    refine g_aload_n K dX2_readGain_22 rfl 1 rfl ?_
    refine g_bipush (v := (-4)) K dX2_readGain_23 (by decide) ?_
    refine g_iload_n K dX2_readGain_25 rfl 3 rfl ?_
    refine g_iload_n K dX2_readGain_26 rfl 0 rfl ?_
    refine g_imul K dX2_readGain_27 ?_
    refine g_iconst (v := 0) K dX2_readGain_28 (by decide) ?_
    obtain ⟨z_6, hz_6, h⟩ := gi_bd h
    refine g_callVv (As := [.int (-4), .int (x2 * v_3), .int 0]) (bytes := cX2_add) (maxL := 4) (ret := none) K (ctX2_add (gu (gu (gu o 5 z_5.2.2.2.1) 6 z_5.2.2.2.2.1) 10 z_5.2.2.2.2.2) (gu (gu (gu A 7 z_5.1) 8 z_5.2.1) 9 z_5.2.2.1) (-4) (x2 * v_3) 0 (res := z_6) hz_6) gc_V_RX2_92_X2_add rfl qv_X2_add 0 rfl rfl rfl hRm rfl rfl rfl (by decide) (Nat.le_of_ble_eq_true rfl) (by decide) dX2_readGain_29 (fun w hw => ?_)
    subst hw
    refine g_ws (ws' := hw (g_E Γ) hb tx rr N (gu (gu (gu o 5 z_5.2.2.2.1) 6 z_5.2.2.2.2.1) 10 z_6.2.2.2) (gu (gu (gu A 7 z_6.1) 8 z_6.2.1) 9 z_6.2.2.1)) rfl ?_
    obtain rfl := Option.some.inj h
    exact hret _ _ _ dX2_readGain_32 rfl

set_option maxRecDepth 100000 in
theorem ctX2_readGain_s2 {E : gE} {hb tx N : Nat} {rr : Nat → Nat} (o : Nat → Int32) (A : Nat → Nat → Int32) (x2 : Int32) {res : ((Nat → Int32)) × ((Nat → Int32)) × ((Nat → Int32)) × Int32 × Int32 × Int32} (h : pX2_readGain_s2 N (A 3) (o 4) (A 7) (A 8) (A 9) (o 5) (o 6) (o 10) x2 = some res) : gMv yX2_readGain (.code yX2_readGain cX2_readGain 4 none :: gU) ({ frames := 47, cells := 0, slots := 0, locals := 1782 } : Room) 0 0 E [.ref hb, .ref (gK E 2), .int x2] (hw E hb tx rr N o A) (fun w => w = hw E hb tx rr N (gu (gu (gu o 5 res.2.2.2.1) 6 res.2.2.2.2.1) 10 res.2.2.2.2.2) (gu (gu (gu A 7 res.1) 8 res.2.1) 9 res.2.2.1)) := by
  refine g_met_v (by decide +kernel) (Nat.le_of_ble_eq_true rfl) (fun Γ K hn hE hRm _ hret => ?_)
  subst hE
  have hlt : ∀ i, i < 4 → i < g_n Γ := fun i q => by rw [hn]; exact q
  refine g_ws (ws' := hw (g_E Γ) hb tx rr N (gu (gu (gu o 5 (o 5)) 6 (o 6)) 10 (o 10)) (gu (gu (gu A 7 (A 7)) 8 (A 8)) 9 (A 9))) rfl ?_
  refine g_sub (L' := [(0, .ref hb), (1, .ref (gK (g_E Γ) 2)), (2, .int x2)]) [0, 1, 2] rfl ?_
  exact wX2_readGain_s2 K hlt hRm hret (A 7) (A 8) (A 9) (o 5) (o 6) (o 10) x2 h

set_option maxHeartbeats 4000000 in
set_option maxRecDepth 100000 in
theorem wX2_takeAll_s0_2 {Γ : gT} {hb tx N : Nat} {rr : Nat → Nat} {o : Nat → Int32} {A : Nat → Nat → Int32} (K : gOK Γ cX2_takeAll gU RX2) (hlt : ∀ i, i < 3 → i < g_n Γ) (hRm : g_R Γ = ({ frames := 10, cells := 0, slots := 0, locals := 400 } : Room)) {res : Int32 × Int32} (hret : ∀ (pc : Nat) (L : List (Nat × Value)) (w : va_W), decode cX2_takeAll pc = .ok (.return_, 1) → (w = hw (g_E Γ) hb tx rr N (gu (gu o 5 res.1) 6 res.2) A) → gGO Γ 0 0 pc L [] w) : ∀ (n : Nat) (o5 : Int32) (o6 : Int32) (x2 : Int32), pX2_takeAll_s0_2 N (A 3) (o 4) n o5 o6 x2 = some res → gGO Γ 0 0 2 [(0, .ref hb), (1, .ref (gK (g_E Γ) 0)), (2, .int x2)] [] (hw (g_E Γ) hb tx rr N (gu (gu o 5 o5) 6 o6) A) := by
  intro n
  induction n with
  | zero => intro _ _ _ h; cases h
  | succ n ih =>
    intro o5 o6 x2 h
    simp only [pX2_takeAll_s0_2] at h
    refine g_iload_n K dX2_takeAll_2 rfl 2 rfl ?_
    refine g_aload_n K dX2_takeAll_3 rfl 1 rfl ?_
    obtain ⟨z_1, hz_1, h⟩ := gi_bd h
    refine g_callViK (As := []) (bytes := cJ0_length_8abf5) (maxL := 1) (ret := (some .int)) K (ctJ0_length_8abf5 (ws := hw (g_E Γ) hb tx rr N (gu (gu o 5 o5) 6 o6) A) (i0 := 0) (by decide) (res := z_1) hz_1) gc_V_RX2_110_J0_length_8abf5 rfl qv_J0_length_8abf5 (by decide) hRm rfl rfl rfl (by decide) (Nat.le_of_ble_eq_true rfl) (by decide) dX2_takeAll_4 (fun v w hw => ?_)
    obtain ⟨hv9, rfl⟩ := hw; have hv9 := hv9.symm; subst hv9
    obtain ⟨ht9, hf9⟩ := gi_br h; clear h
    refine g_icmp_ge (tgt := 26) K dX2_takeAll_7 (by decide) (fun qh => ?_) (fun qh => ?_)
    · have h := ht9 qh; clear ht9 hf9
      obtain rfl := Option.some.inj h
      exact hret _ _ _ dX2_takeAll_26 rfl
    · have h := hf9 qh; clear ht9 hf9
      refine g_aload_n K dX2_takeAll_10 rfl 0 rfl ?_
      refine g_aload_n K dX2_takeAll_11 rfl 1 rfl ?_
      refine g_iload_n K dX2_takeAll_12 rfl 2 rfl ?_
      obtain ⟨z_2, hz_2, h⟩ := gi_bd h
      refine g_callViK (As := [.int x2]) (bytes := cJ0_charAt_5068e) (maxL := 2) (ret := (some .char)) K (ctJ0_charAt_5068e (ws := hw (g_E Γ) hb tx rr N (gu (gu o 5 o5) 6 o6) A) (i0 := 0) (by decide) x2 (res := z_2) hz_2) gc_V_RX2_113_J0_charAt_5068e rfl qv_J0_charAt_5068e (by decide) hRm rfl rfl rfl (by decide) (Nat.le_of_ble_eq_true rfl) (by decide) dX2_takeAll_13 (fun v w hw => ?_)
      obtain ⟨hv9, rfl⟩ := hw; have hv9 := hv9.symm; subst hv9
      obtain ⟨z_3, hz_3, h⟩ := gi_bd h
      refine g_callVi (As := [.int z_2]) (bytes := cX2_take) (maxL := 2) (ret := (some .boolean)) K (ctX2_take (gu (gu o 5 o5) 6 o6) A z_2 (res := z_3) hz_3) gc_V_RX2_74_X2_take rfl qv_X2_take 0 rfl rfl rfl hRm rfl rfl rfl (by decide) (Nat.le_of_ble_eq_true rfl) (by decide) dX2_takeAll_16 (fun v w hw => ?_)
      obtain ⟨hv9, rfl⟩ := hw; have hv9 := hv9.symm; subst hv9
      refine g_ws (ws' := hw (g_E Γ) hb tx rr N (gu (gu o 5 z_3.2.1) 6 z_3.2.2) A) rfl ?_
      refine g_pop K dX2_takeAll_19 rfl ?_
      refine g_iinc (v := (x2 + 1)) (L' := [(2, .int (x2 + 1)), (0, .ref hb), (1, .ref (gK (g_E Γ) 0))]) K dX2_takeAll_20 2 rfl rfl (hlt _ (by decide)) rfl ?_
      refine g_goto (tgt := 2) K dX2_takeAll_23 (by decide) ?_
      refine g_sub (L' := [(0, .ref hb), (1, .ref (gK (g_E Γ) 0)), (2, .int (x2 + 1))]) [1, 2, 0] rfl ?_
      exact ih z_3.2.1 z_3.2.2 (x2 + 1) h

set_option maxHeartbeats 4000000 in
set_option maxRecDepth 100000 in
theorem wX2_takeAll_s0 {Γ : gT} {hb tx N : Nat} {rr : Nat → Nat} {o : Nat → Int32} {A : Nat → Nat → Int32} (K : gOK Γ cX2_takeAll gU RX2) (hlt : ∀ i, i < 3 → i < g_n Γ) (hRm : g_R Γ = ({ frames := 10, cells := 0, slots := 0, locals := 400 } : Room)) {res : Int32 × Int32} (hret : ∀ (pc : Nat) (L : List (Nat × Value)) (w : va_W), decode cX2_takeAll pc = .ok (.return_, 1) → (w = hw (g_E Γ) hb tx rr N (gu (gu o 5 res.1) 6 res.2) A) → gGO Γ 0 0 pc L [] w) (o5 : Int32) (o6 : Int32) (h : pX2_takeAll_s0 N (A 3) (o 4) o5 o6 = some res) : gGO Γ 0 0 0 [(0, .ref hb), (1, .ref (gK (g_E Γ) 0))] [] (hw (g_E Γ) hb tx rr N (gu (gu o 5 o5) 6 o6) A) := by
    unfold pX2_takeAll_s0 at h
    refine g_iconst (v := 0) K dX2_takeAll_0 (by decide) ?_
    refine g_istore_n (L' := [(2, .int 0), (0, .ref hb), (1, .ref (gK (g_E Γ) 0))]) K dX2_takeAll_1 rfl (hlt _ (by decide)) rfl ?_
    refine g_sub (L' := [(0, .ref hb), (1, .ref (gK (g_E Γ) 0)), (2, .int 0)]) [1, 2, 0] rfl ?_
    exact wX2_takeAll_s0_2 K hlt hRm hret 1000 o5 o6 0 h

set_option maxRecDepth 100000 in
theorem ctX2_takeAll_s0 {E : gE} {hb tx N : Nat} {rr : Nat → Nat} (o : Nat → Int32) (A : Nat → Nat → Int32) {res : Int32 × Int32} (h : pX2_takeAll_s0 N (A 3) (o 4) (o 5) (o 6) = some res) : gMv yX2_takeAll (.code yX2_takeAll cX2_takeAll 3 none :: gU) ({ frames := 10, cells := 0, slots := 0, locals := 400 } : Room) 0 0 E [.ref hb, .ref (gK E 0)] (hw E hb tx rr N o A) (fun w => w = hw E hb tx rr N (gu (gu o 5 res.1) 6 res.2) A) := by
  refine g_met_v (by decide +kernel) (Nat.le_of_ble_eq_true rfl) (fun Γ K hn hE hRm _ hret => ?_)
  subst hE
  have hlt : ∀ i, i < 3 → i < g_n Γ := fun i q => by rw [hn]; exact q
  refine g_ws (ws' := hw (g_E Γ) hb tx rr N (gu (gu o 5 (o 5)) 6 (o 6)) A) rfl ?_
  refine g_sub (L' := [(0, .ref hb), (1, .ref (gK (g_E Γ) 0))]) [0, 1] rfl ?_
  exact wX2_takeAll_s0 K hlt hRm hret (o 5) (o 6) h

set_option maxHeartbeats 4000000 in
set_option maxRecDepth 100000 in
theorem wX2_readGain_s0 {Γ : gT} {hb tx N : Nat} {rr : Nat → Nat} {o : Nat → Int32} {A : Nat → Nat → Int32} (K : gOK Γ cX2_readGain gU RX2) (hlt : ∀ i, i < 4 → i < g_n Γ) (hRm : g_R Γ = ({ frames := 47, cells := 0, slots := 0, locals := 1782 } : Room)) {res : ((Nat → Int32)) × ((Nat → Int32)) × ((Nat → Int32)) × Int32 × Int32 × Int32} (hret : ∀ (pc : Nat) (L : List (Nat × Value)) (w : va_W), decode cX2_readGain pc = .ok (.return_, 1) → (w = hw (g_E Γ) hb tx rr N (gu (gu (gu o 5 res.2.2.2.1) 6 res.2.2.2.2.1) 10 res.2.2.2.2.2) (gu (gu (gu A 7 res.1) 8 res.2.1) 9 res.2.2.1)) → gGO Γ 0 0 pc L [] w) (a7 : (Nat → Int32)) (a8 : (Nat → Int32)) (a9 : (Nat → Int32)) (o5 : Int32) (o6 : Int32) (o10 : Int32) (x2 : Int32) (h : pX2_readGain_s0 N (A 3) (o 4) a7 a8 a9 o5 o6 o10 x2 = some res) : gGO Γ 0 0 0 [(0, .ref hb), (1, .ref (gK (g_E Γ) 0)), (2, .int x2)] [] (hw (g_E Γ) hb tx rr N (gu (gu (gu o 5 o5) 6 o6) 10 o10) (gu (gu (gu A 7 a7) 8 a8) 9 a9)) := by
    unfold pX2_readGain_s0 at h
    refine g_aload_n K dX2_readGain_0 rfl 0 rfl ?_
    refine g_aload_n K dX2_readGain_1 rfl 1 rfl ?_
    obtain ⟨z_1, hz_1, h⟩ := gi_bd h
    refine g_callVv (As := [.ref (gK (g_E Γ) 0)]) (bytes := cX2_takeAll) (maxL := 3) (ret := none) K (ctX2_takeAll_s0 (gu (gu (gu o 5 o5) 6 o6) 10 o10) (gu (gu (gu A 7 a7) 8 a8) 9 a9) (res := z_1) hz_1) gc_V_RX2_81_X2_takeAll rfl qv_X2_takeAll 0 rfl rfl rfl hRm rfl rfl rfl (by decide) (Nat.le_of_ble_eq_true rfl) (by decide) dX2_readGain_2 (fun w hw => ?_)
    subst hw
    refine g_ws (ws' := hw (g_E Γ) hb tx rr N (gu (gu (gu o 5 z_1.1) 6 z_1.2) 10 o10) (gu (gu (gu A 7 a7) 8 a8) 9 a9)) rfl ?_
    refine g_aload_n K dX2_readGain_5 rfl 0 rfl ?_
    obtain ⟨z_2, hz_2, h⟩ := gi_bd h
    refine g_callVi (As := []) (bytes := cX2_readNumber) (maxL := 3) (ret := (some .int)) K (ctX2_readNumber (gu (gu (gu o 5 z_1.1) 6 z_1.2) 10 o10) (gu (gu (gu A 7 a7) 8 a8) 9 a9) (res := z_2) hz_2) gc_V_RX2_85_X2_readNumber rfl qv_X2_readNumber 0 rfl rfl rfl hRm rfl rfl rfl (by decide) (Nat.le_of_ble_eq_true rfl) (by decide) dX2_readGain_6 (fun v w hw => ?_)
    obtain ⟨hv9, rfl⟩ := hw; have hv9 := hv9.symm; subst hv9
    refine g_ws (ws' := hw (g_E Γ) hb tx rr N (gu (gu (gu o 5 z_2.2.1) 6 z_2.2.2) 10 o10) (gu (gu (gu A 7 a7) 8 a8) 9 a9)) rfl ?_
    obtain ⟨v_3, ev_3, h⟩ := gi_nm h
    refine g_topi ev_3 ?_
    refine g_istore_n (L' := [(3, .int v_3), (0, .ref hb), (1, .ref (gK (g_E Γ) 0)), (2, .int x2)]) K dX2_readGain_9 rfl (hlt _ (by decide)) rfl ?_
    refine g_aload_n K dX2_readGain_10 rfl 1 rfl ?_
    refine g_bipush (v := 32) K dX2_readGain_11 (by decide) ?_
    obtain ⟨z_4, hz_4, h⟩ := gi_bd h
    refine g_callVi (As := [.int 32]) (bytes := cX2_take) (maxL := 2) (ret := (some .boolean)) K (ctX2_take (gu (gu (gu o 5 z_2.2.1) 6 z_2.2.2) 10 o10) (gu (gu (gu A 7 a7) 8 a8) 9 a9) 32 (res := z_4) hz_4) gc_V_RX2_74_X2_take rfl qv_X2_take 0 rfl rfl rfl hRm rfl rfl rfl (by decide) (Nat.le_of_ble_eq_true rfl) (by decide) dX2_readGain_13 (fun v w hw => ?_)
    obtain ⟨hv9, rfl⟩ := hw; have hv9 := hv9.symm; subst hv9
    refine g_ws (ws' := hw (g_E Γ) hb tx rr N (gu (gu (gu o 5 z_4.2.1) 6 z_4.2.2) 10 o10) (gu (gu (gu A 7 a7) 8 a8) 9 a9)) rfl ?_
    refine g_pop K dX2_readGain_16 rfl ?_
    refine g_aload_n K dX2_readGain_17 rfl 1 rfl ?_
    refine g_iconst (v := 0) K dX2_readGain_18 (by decide) ?_
    obtain ⟨z_5, hz_5, h⟩ := gi_bd h
    refine g_callVv (As := [.int 0]) (bytes := cX2_readEither) (maxL := 3) (ret := none) K (ctX2_readEither (dd := 8) (fun o A x1 z h => ctX2_readPartN 8 o A x1 (res := z) h) (gu (gu (gu o 5 z_4.2.1) 6 z_4.2.2) 10 o10) (gu (gu (gu A 7 a7) 8 a8) 9 a9) 0 (res := z_5) hz_5) gc_V_RX2_88_X2_readEither rfl qv_X2_readEither 0 rfl rfl rfl hRm rfl rfl rfl (by decide) (Nat.le_of_ble_eq_true rfl) (by decide) dX2_readGain_19 (fun w hw => ?_)
    subst hw
    refine g_ws (ws' := hw (g_E Γ) hb tx rr N (gu (gu (gu o 5 z_5.2.2.2.1) 6 z_5.2.2.2.2.1) 10 z_5.2.2.2.2.2) (gu (gu (gu A 7 z_5.1) 8 z_5.2.1) 9 z_5.2.2.1)) rfl ?_
    refine g_aload_n K dX2_readGain_22 rfl 1 rfl ?_
    refine g_bipush (v := (-4)) K dX2_readGain_23 (by decide) ?_
    refine g_iload_n K dX2_readGain_25 rfl 3 rfl ?_
    refine g_iload_n K dX2_readGain_26 rfl 0 rfl ?_
    refine g_imul K dX2_readGain_27 ?_
    refine g_iconst (v := 0) K dX2_readGain_28 (by decide) ?_
    obtain ⟨z_6, hz_6, h⟩ := gi_bd h
    refine g_callVv (As := [.int (-4), .int (x2 * v_3), .int 0]) (bytes := cX2_add) (maxL := 4) (ret := none) K (ctX2_add (gu (gu (gu o 5 z_5.2.2.2.1) 6 z_5.2.2.2.2.1) 10 z_5.2.2.2.2.2) (gu (gu (gu A 7 z_5.1) 8 z_5.2.1) 9 z_5.2.2.1) (-4) (x2 * v_3) 0 (res := z_6) hz_6) gc_V_RX2_92_X2_add rfl qv_X2_add 0 rfl rfl rfl hRm rfl rfl rfl (by decide) (Nat.le_of_ble_eq_true rfl) (by decide) dX2_readGain_29 (fun w hw => ?_)
    subst hw
    refine g_ws (ws' := hw (g_E Γ) hb tx rr N (gu (gu (gu o 5 z_5.2.2.2.1) 6 z_5.2.2.2.2.1) 10 z_6.2.2.2) (gu (gu (gu A 7 z_6.1) 8 z_6.2.1) 9 z_6.2.2.1)) rfl ?_
    obtain rfl := Option.some.inj h
    exact hret _ _ _ dX2_readGain_32 rfl

set_option maxRecDepth 100000 in
theorem ctX2_readGain_s0 {E : gE} {hb tx N : Nat} {rr : Nat → Nat} (o : Nat → Int32) (A : Nat → Nat → Int32) (x2 : Int32) {res : ((Nat → Int32)) × ((Nat → Int32)) × ((Nat → Int32)) × Int32 × Int32 × Int32} (h : pX2_readGain_s0 N (A 3) (o 4) (A 7) (A 8) (A 9) (o 5) (o 6) (o 10) x2 = some res) : gMv yX2_readGain (.code yX2_readGain cX2_readGain 4 none :: gU) ({ frames := 47, cells := 0, slots := 0, locals := 1782 } : Room) 0 0 E [.ref hb, .ref (gK E 0), .int x2] (hw E hb tx rr N o A) (fun w => w = hw E hb tx rr N (gu (gu (gu o 5 res.2.2.2.1) 6 res.2.2.2.2.1) 10 res.2.2.2.2.2) (gu (gu (gu A 7 res.1) 8 res.2.1) 9 res.2.2.1)) := by
  refine g_met_v (by decide +kernel) (Nat.le_of_ble_eq_true rfl) (fun Γ K hn hE hRm _ hret => ?_)
  subst hE
  have hlt : ∀ i, i < 4 → i < g_n Γ := fun i q => by rw [hn]; exact q
  refine g_ws (ws' := hw (g_E Γ) hb tx rr N (gu (gu (gu o 5 (o 5)) 6 (o 6)) 10 (o 10)) (gu (gu (gu A 7 (A 7)) 8 (A 8)) 9 (A 9))) rfl ?_
  refine g_sub (L' := [(0, .ref hb), (1, .ref (gK (g_E Γ) 0)), (2, .int x2)]) [0, 1, 2] rfl ?_
  exact wX2_readGain_s0 K hlt hRm hret (A 7) (A 8) (A 9) (o 5) (o 6) (o 10) x2 h

set_option maxHeartbeats 4000000 in
set_option maxRecDepth 100000 in
theorem wX2_read_178 {Γ : gT} {hb tx N : Nat} {rr : Nat → Nat} {o : Nat → Int32} {A : Nat → Nat → Int32} (K : gOK Γ cX2_read gU RX2) (hlt : ∀ i, i < 3 → i < g_n Γ) (hRm : g_R Γ = ({ frames := 48, cells := 0, slots := 0, locals := 1805 } : Room)) {res : Int32 × ((Nat → Int32)) × ((Nat → Int32)) × ((Nat → Int32)) × Int32 × Int32 × Int32 × Int32 × Int32 × Int32} (hret : ∀ (pc : Nat) (L : List (Nat × Value)) (v : Int32) (w : va_W), decode cX2_read pc = .ok (.ireturn, 1) → narrow .int (.int v) = .int v → (v = res.1 ∧ w = hw (g_E Γ) hb tx rr N (gu (gu (gu (gu (gu (gu o 0 res.2.2.2.2.1) 1 res.2.2.2.2.2.1) 2 res.2.2.2.2.2.2.1) 5 res.2.2.2.2.2.2.2.1) 6 res.2.2.2.2.2.2.2.2.1) 10 res.2.2.2.2.2.2.2.2.2) (gu (gu (gu A 7 res.2.1) 8 res.2.2.1) 9 res.2.2.2.1)) → gGO Γ 0 0 pc L [.int v] w) (a7 : (Nat → Int32)) (a8 : (Nat → Int32)) (a9 : (Nat → Int32)) (o0 : Int32) (o1 : Int32) (o2 : Int32) (o5 : Int32) (o6 : Int32) (o10 : Int32) (h : pX2_read_178 N (A 3) (o 4) a7 a8 a9 o0 o1 o2 o5 o6 o10 = some res) : gGO Γ 0 0 178 [(0, .ref hb)] [] (hw (g_E Γ) hb tx rr N (gu (gu (gu (gu (gu (gu o 0 o0) 1 o1) 2 o2) 5 o5) 6 o6) 10 o10) (gu (gu (gu A 7 a7) 8 a8) 9 a9)) := by
    unfold pX2_read_178 at h
    refine g_aload_n K dX2_read_178 rfl 0 rfl ?_
    refine hg_6 (v := o6) K hin_X2 (u_128) rfl dX2_read_179 ?_
    obtain ⟨ht9, hf9⟩ := gi_br h; clear h
    refine g_if_ne (tgt := 196) K dX2_read_182 (by decide) (fun qh => ?_) (fun qh => ?_)
    · have h := hf9 qh; clear ht9 hf9
      refine g_aload_n K dX2_read_196 rfl 0 rfl ?_
      refine hg_5 (v := o5) K hin_X2 (u_127) rfl dX2_read_197 ?_
      refine g_goto (tgt := 204) K dX2_read_200 (by decide) ?_
      obtain rfl := Option.some.inj h
      exact hret _ _ _ _ dX2_read_204 rfl ⟨rfl, rfl⟩
    · have h := ht9 qh; clear ht9 hf9
      refine g_aload_n K dX2_read_185 rfl 0 rfl ?_
      refine hg_5 (v := o5) K hin_X2 (u_127) rfl dX2_read_186 ?_
      refine g_aload_n K dX2_read_189 rfl 0 rfl ?_
      refine hg_4 (v := (o 4)) K hin_X2 (u_126) rfl dX2_read_190 ?_
      obtain ⟨ht9, hf9⟩ := gi_br h; clear h
      refine g_icmp_ge (tgt := 203) K dX2_read_193 (by decide) (fun qh => ?_) (fun qh => ?_)
      · have h := ht9 qh; clear ht9 hf9
        refine g_iconst (v := (-1)) K dX2_read_203 (by decide) ?_
        obtain rfl := Option.some.inj h
        exact hret _ _ _ _ dX2_read_204 rfl ⟨rfl, rfl⟩
      · have h := hf9 qh; clear ht9 hf9
        refine g_aload_n K dX2_read_196 rfl 0 rfl ?_
        refine hg_5 (v := o5) K hin_X2 (u_127) rfl dX2_read_197 ?_
        refine g_goto (tgt := 204) K dX2_read_200 (by decide) ?_
        obtain rfl := Option.some.inj h
        exact hret _ _ _ _ dX2_read_204 rfl ⟨rfl, rfl⟩

set_option maxHeartbeats 4000000 in
set_option maxRecDepth 100000 in
theorem wX2_read_140 {Γ : gT} {hb tx N : Nat} {rr : Nat → Nat} {o : Nat → Int32} {A : Nat → Nat → Int32} (K : gOK Γ cX2_read gU RX2) (hlt : ∀ i, i < 3 → i < g_n Γ) (hRm : g_R Γ = ({ frames := 48, cells := 0, slots := 0, locals := 1805 } : Room)) {res : Int32 × ((Nat → Int32)) × ((Nat → Int32)) × ((Nat → Int32)) × Int32 × Int32 × Int32 × Int32 × Int32 × Int32} (hret : ∀ (pc : Nat) (L : List (Nat × Value)) (v : Int32) (w : va_W), decode cX2_read pc = .ok (.ireturn, 1) → narrow .int (.int v) = .int v → (v = res.1 ∧ w = hw (g_E Γ) hb tx rr N (gu (gu (gu (gu (gu (gu o 0 res.2.2.2.2.1) 1 res.2.2.2.2.2.1) 2 res.2.2.2.2.2.2.1) 5 res.2.2.2.2.2.2.2.1) 6 res.2.2.2.2.2.2.2.2.1) 10 res.2.2.2.2.2.2.2.2.2) (gu (gu (gu A 7 res.2.1) 8 res.2.2.1) 9 res.2.2.2.1)) → gGO Γ 0 0 pc L [.int v] w) {k4 : (Nat → Int32) → (Nat → Int32) → (Nat → Int32) → Int32 → Int32 → Int32 → Int32 → Int32 → Int32 → Int32 → Int32 → Option (Int32 × ((Nat → Int32)) × ((Nat → Int32)) × ((Nat → Int32)) × Int32 × Int32 × Int32 × Int32 × Int32 × Int32)} (hk4 : ∀ (a7 : (Nat → Int32)) (a8 : (Nat → Int32)) (a9 : (Nat → Int32)) (o0 : Int32) (o1 : Int32) (o2 : Int32) (o5 : Int32) (o6 : Int32) (o10 : Int32) (x1 : Int32) (x2 : Int32), k4 a7 a8 a9 o0 o1 o2 o5 o6 o10 x1 x2 = some res → gGO Γ 0 0 4 [(0, .ref hb), (1, .int x1), (2, .int x2)] [] (hw (g_E Γ) hb tx rr N (gu (gu (gu (gu (gu (gu o 0 o0) 1 o1) 2 o2) 5 o5) 6 o6) 10 o10) (gu (gu (gu A 7 a7) 8 a8) 9 a9))) (a7 : (Nat → Int32)) (a8 : (Nat → Int32)) (a9 : (Nat → Int32)) (o0 : Int32) (o1 : Int32) (o2 : Int32) (o5 : Int32) (o6 : Int32) (o10 : Int32) (x2 : Int32) (h : pX2_read_140 N k4 (A 3) (o 4) a7 a8 a9 o0 o1 o2 o5 o6 o10 x2 = some res) : gGO Γ 0 0 140 [(0, .ref hb), (2, .int x2)] [] (hw (g_E Γ) hb tx rr N (gu (gu (gu (gu (gu (gu o 0 o0) 1 o1) 2 o2) 5 o5) 6 o6) 10 o10) (gu (gu (gu A 7 a7) 8 a8) 9 a9)) := by
    unfold pX2_read_140 at h
    refine g_iload_n K dX2_read_140 rfl 1 rfl ?_
    refine g_bipush (v := 10) K dX2_read_141 (by decide) ?_
    obtain ⟨ht9, hf9⟩ := gi_br h; clear h
    refine g_icmp_ge (tgt := 170) K dX2_read_143 (by decide) (fun qh => ?_) (fun qh => ?_)
    · have h := ht9 qh; clear ht9 hf9
      refine g_iconst (v := 0) K dX2_read_170 (by decide) ?_
      refine g_istore_n (L' := [(1, .int 0), (0, .ref hb), (2, .int x2)]) K dX2_read_171 rfl (hlt _ (by decide)) rfl ?_
      refine g_iinc (v := (x2 + 1)) (L' := [(2, .int (x2 + 1)), (1, .int 0), (0, .ref hb)]) K dX2_read_172 2 rfl rfl (hlt _ (by decide)) rfl ?_
      refine g_goto (tgt := 4) K dX2_read_175 (by decide) ?_
      refine g_sub (L' := [(0, .ref hb), (1, .int 0), (2, .int (x2 + 1))]) [2, 1, 0] rfl ?_
      exact hk4 a7 a8 a9 o0 o1 o2 o5 o6 o10 0 (x2 + 1) h
    · have h := hf9 qh; clear ht9 hf9
      refine g_aload_n K dX2_read_146 rfl 0 rfl ?_
      refine hg_5 (v := o5) K hin_X2 (u_127) rfl dX2_read_147 ?_
      refine g_aload_n K dX2_read_150 rfl 0 rfl ?_
      refine hg_4 (v := (o 4)) K hin_X2 (u_126) rfl dX2_read_151 ?_
      obtain ⟨ht9, hf9⟩ := gi_br h; clear h
      refine g_icmp_ge (tgt := 170) K dX2_read_154 (by decide) (fun qh => ?_) (fun qh => ?_)
      · have h := ht9 qh; clear ht9 hf9
        refine g_iconst (v := 0) K dX2_read_170 (by decide) ?_
        refine g_istore_n (L' := [(1, .int 0), (0, .ref hb), (2, .int x2)]) K dX2_read_171 rfl (hlt _ (by decide)) rfl ?_
        refine g_iinc (v := (x2 + 1)) (L' := [(2, .int (x2 + 1)), (1, .int 0), (0, .ref hb)]) K dX2_read_172 2 rfl rfl (hlt _ (by decide)) rfl ?_
        refine g_goto (tgt := 4) K dX2_read_175 (by decide) ?_
        refine g_sub (L' := [(0, .ref hb), (1, .int 0), (2, .int (x2 + 1))]) [2, 1, 0] rfl ?_
        exact hk4 a7 a8 a9 o0 o1 o2 o5 o6 o10 0 (x2 + 1) h
      · have h := hf9 qh; clear ht9 hf9
        refine g_aload_n K dX2_read_157 rfl 0 rfl ?_
        refine g_bipush (v := 59) K dX2_read_158 (by decide) ?_
        obtain ⟨z_1, hz_1, h⟩ := gi_bd h
        refine g_callVi (As := [.int 59]) (bytes := cX2_take) (maxL := 2) (ret := (some .boolean)) K (ctX2_take (gu (gu (gu (gu (gu (gu o 0 o0) 1 o1) 2 o2) 5 o5) 6 o6) 10 o10) (gu (gu (gu A 7 a7) 8 a8) 9 a9) 59 (res := z_1) hz_1) gc_V_RX2_74_X2_take rfl qv_X2_take 0 rfl rfl rfl hRm rfl rfl rfl (by decide) (Nat.le_of_ble_eq_true rfl) (by decide) dX2_read_160 (fun v w hw => ?_)
        obtain ⟨hv9, rfl⟩ := hw; have hv9 := hv9.symm; subst hv9
        refine g_ws (ws' := hw (g_E Γ) hb tx rr N (gu (gu (gu (gu (gu (gu o 0 o0) 1 o1) 2 o2) 5 z_1.2.1) 6 z_1.2.2) 10 o10) (gu (gu (gu A 7 a7) 8 a8) 9 a9)) rfl ?_
        obtain ⟨ht9, hf9⟩ := gi_br h; clear h
        refine g_if_eq (tgt := 170) K dX2_read_163 (by decide) (fun qh => ?_) (fun qh => ?_)
        · have h := ht9 qh; clear ht9 hf9
          refine g_iconst (v := 0) K dX2_read_170 (by decide) ?_
          refine g_istore_n (L' := [(1, .int 0), (0, .ref hb), (2, .int x2)]) K dX2_read_171 rfl (hlt _ (by decide)) rfl ?_
          refine g_iinc (v := (x2 + 1)) (L' := [(2, .int (x2 + 1)), (1, .int 0), (0, .ref hb)]) K dX2_read_172 2 rfl rfl (hlt _ (by decide)) rfl ?_
          refine g_goto (tgt := 4) K dX2_read_175 (by decide) ?_
          refine g_sub (L' := [(0, .ref hb), (1, .int 0), (2, .int (x2 + 1))]) [2, 1, 0] rfl ?_
          exact hk4 a7 a8 a9 o0 o1 o2 z_1.2.1 z_1.2.2 o10 0 (x2 + 1) h
        · have h := hf9 qh; clear ht9 hf9
          refine g_iconst (v := 1) K dX2_read_166 (by decide) ?_
          refine g_goto (tgt := 171) K dX2_read_167 (by decide) ?_
          refine g_istore_n (L' := [(1, .int 1), (0, .ref hb), (2, .int x2)]) K dX2_read_171 rfl (hlt _ (by decide)) rfl ?_
          refine g_iinc (v := (x2 + 1)) (L' := [(2, .int (x2 + 1)), (1, .int 1), (0, .ref hb)]) K dX2_read_172 2 rfl rfl (hlt _ (by decide)) rfl ?_
          refine g_goto (tgt := 4) K dX2_read_175 (by decide) ?_
          refine g_sub (L' := [(0, .ref hb), (1, .int 1), (2, .int (x2 + 1))]) [2, 1, 0] rfl ?_
          exact hk4 a7 a8 a9 o0 o1 o2 z_1.2.1 z_1.2.2 o10 1 (x2 + 1) h

set_option maxHeartbeats 4000000 in
set_option maxRecDepth 100000 in
theorem wX2_read_4 {Γ : gT} {hb tx N : Nat} {rr : Nat → Nat} {o : Nat → Int32} {A : Nat → Nat → Int32} (K : gOK Γ cX2_read gU RX2) (hlt : ∀ i, i < 3 → i < g_n Γ) (hRm : g_R Γ = ({ frames := 48, cells := 0, slots := 0, locals := 1805 } : Room)) {res : Int32 × ((Nat → Int32)) × ((Nat → Int32)) × ((Nat → Int32)) × Int32 × Int32 × Int32 × Int32 × Int32 × Int32} (hret : ∀ (pc : Nat) (L : List (Nat × Value)) (v : Int32) (w : va_W), decode cX2_read pc = .ok (.ireturn, 1) → narrow .int (.int v) = .int v → (v = res.1 ∧ w = hw (g_E Γ) hb tx rr N (gu (gu (gu (gu (gu (gu o 0 res.2.2.2.2.1) 1 res.2.2.2.2.2.1) 2 res.2.2.2.2.2.2.1) 5 res.2.2.2.2.2.2.2.1) 6 res.2.2.2.2.2.2.2.2.1) 10 res.2.2.2.2.2.2.2.2.2) (gu (gu (gu A 7 res.2.1) 8 res.2.2.1) 9 res.2.2.2.1)) → gGO Γ 0 0 pc L [.int v] w) : ∀ (n : Nat) (a7 : (Nat → Int32)) (a8 : (Nat → Int32)) (a9 : (Nat → Int32)) (o0 : Int32) (o1 : Int32) (o2 : Int32) (o5 : Int32) (o6 : Int32) (o10 : Int32) (x1 : Int32) (x2 : Int32), pX2_read_4 N (A 3) (o 4) n a7 a8 a9 o0 o1 o2 o5 o6 o10 x1 x2 = some res → gGO Γ 0 0 4 [(0, .ref hb), (1, .int x1), (2, .int x2)] [] (hw (g_E Γ) hb tx rr N (gu (gu (gu (gu (gu (gu o 0 o0) 1 o1) 2 o2) 5 o5) 6 o6) 10 o10) (gu (gu (gu A 7 a7) 8 a8) 9 a9)) := by
  intro n
  induction n with
  | zero => intro _ _ _ _ _ _ _ _ _ _ _ h; cases h
  | succ n ih =>
    intro a7 a8 a9 o0 o1 o2 o5 o6 o10 x1 x2 h
    simp only [pX2_read_4] at h
    refine g_iload_n K dX2_read_4 rfl 2 rfl ?_
    refine g_bipush (v := 10) K dX2_read_5 (by decide) ?_
    obtain ⟨ht9, hf9⟩ := gi_br h; clear h
    refine g_icmp_gt (tgt := 178) K dX2_read_7 (by decide) (fun qh => ?_) (fun qh => ?_)
    · have h := ht9 qh; clear ht9 hf9
      refine g_sub (L' := [(0, .ref hb)]) [0] rfl ?_
      exact wX2_read_178 K hlt hRm hret a7 a8 a9 o0 o1 o2 o5 o6 o10 h
    · have h := hf9 qh; clear ht9 hf9
      refine g_iload_n K dX2_read_10 rfl 1 rfl ?_
      obtain ⟨ht9, hf9⟩ := gi_br h; clear h
      refine g_if_eq (tgt := 178) K dX2_read_11 (by decide) (fun qh => ?_) (fun qh => ?_)
      · have h := ht9 qh; clear ht9 hf9
        refine g_sub (L' := [(0, .ref hb)]) [0] rfl ?_
        exact wX2_read_178 K hlt hRm hret a7 a8 a9 o0 o1 o2 o5 o6 o10 h
      · have h := hf9 qh; clear ht9 hf9
        refine g_aload_n K dX2_read_14 rfl 0 rfl ?_
        obtain ⟨z_1, hz_1, h⟩ := gi_bd h
        refine g_callVi (As := []) (bytes := cX2_sign) (maxL := 1) (ret := (some .int)) K (ctX2_sign (gu (gu (gu (gu (gu (gu o 0 o0) 1 o1) 2 o2) 5 o5) 6 o6) 10 o10) (gu (gu (gu A 7 a7) 8 a8) 9 a9) (res := z_1) hz_1) gc_V_RX2_45_X2_sign rfl qv_X2_sign 0 rfl rfl rfl hRm rfl rfl rfl (by decide) (Nat.le_of_ble_eq_true rfl) (by decide) dX2_read_15 (fun v w hw => ?_)
        obtain ⟨hv9, rfl⟩ := hw; have hv9 := hv9.symm; subst hv9
        obtain ⟨ht9, hf9⟩ := gi_br h; clear h
        by_cases q102 : z_1 = 102
        · have h := ht9 q102; clear ht9 hf9
          refine g_tabIn (tgt := 96) K dX2_read_18 (by rw [q102]; decide) (by rw [q102]; decide) (by rw [q102]; rfl) (by decide) ?_
          refine g_aload_n K dX2_read_96 rfl 0 rfl ?_
          refine g_aload_n K dX2_read_97 rfl 0 rfl ?_
          refine g_ldcS (tx := "five ") K 3 (by decide +kernel) dX2_read_98 ?_
          obtain ⟨z_2, hz_2, h⟩ := gi_bd h
          refine g_callVi (As := [.ref (gK (g_E Γ) 3)]) (bytes := cX2_readShare) (maxL := 2) (ret := (some .int)) K (ctX2_readShare_s3 (gu (gu (gu (gu (gu (gu o 0 o0) 1 o1) 2 o2) 5 o5) 6 o6) 10 o10) (gu (gu (gu A 7 a7) 8 a8) 9 a9) (res := z_2) hz_2) gc_V_RX2_59_X2_readShare rfl qv_X2_readShare 0 rfl rfl rfl hRm rfl rfl rfl (by decide) (Nat.le_of_ble_eq_true rfl) (by decide) dX2_read_100 (fun v w hw => ?_)
          obtain ⟨hv9, rfl⟩ := hw; have hv9 := hv9.symm; subst hv9
          refine g_ws (ws' := hw (g_E Γ) hb tx rr N (gu (gu (gu (gu (gu (gu o 0 o0) 1 o1) 2 o2) 5 z_2.2.1) 6 z_2.2.2) 10 o10) (gu (gu (gu A 7 a7) 8 a8) 9 a9)) rfl ?_
          refine hp_0 (w' := hw (g_E Γ) hb tx rr N (gu (gu (gu (gu (gu (gu o 0 z_2.1) 1 o1) 2 o2) 5 z_2.2.1) 6 z_2.2.2) 10 o10) (gu (gu (gu A 7 a7) 8 a8) 9 a9)) K hin_X2 (u_117) rfl rfl dX2_read_103 rfl ?_
          refine g_goto (tgt := 140) K dX2_read_106 (by decide) ?_
          refine g_sub (L' := [(0, .ref hb), (2, .int x2)]) [0, 2] rfl ?_
          exact wX2_read_140 K hlt hRm hret ih a7 a8 a9 z_2.1 o1 o2 z_2.2.1 z_2.2.2 o10 x2 h
        have h := hf9 q102; clear ht9 hf9
        obtain ⟨ht9, hf9⟩ := gi_br h; clear h
        by_cases q108 : z_1 = 108
        · have h := ht9 q108; clear ht9 hf9
          refine g_tabIn (tgt := 86) K dX2_read_18 (by rw [q108]; decide) (by rw [q108]; decide) (by rw [q108]; rfl) (by decide) ?_
          refine g_aload_n K dX2_read_86 rfl 0 rfl ?_
          refine g_ldcS (tx := "less ") K 2 (by decide +kernel) dX2_read_87 ?_
          refine g_iconst (v := (-1)) K dX2_read_89 (by decide) ?_
          obtain ⟨z_3, hz_3, h⟩ := gi_bd h
          refine g_callVv (As := [.ref (gK (g_E Γ) 2), .int (-1)]) (bytes := cX2_readGain) (maxL := 4) (ret := none) K (ctX2_readGain_s2 (gu (gu (gu (gu (gu (gu o 0 o0) 1 o1) 2 o2) 5 o5) 6 o6) 10 o10) (gu (gu (gu A 7 a7) 8 a8) 9 a9) (-1) (res := z_3) hz_3) gc_V_RX2_51_X2_readGain rfl qv_X2_readGain 0 rfl rfl rfl hRm rfl rfl rfl (by decide) (Nat.le_of_ble_eq_true rfl) (by decide) dX2_read_90 (fun w hw => ?_)
          subst hw
          refine g_ws (ws' := hw (g_E Γ) hb tx rr N (gu (gu (gu (gu (gu (gu o 0 o0) 1 o1) 2 o2) 5 z_3.2.2.2.1) 6 z_3.2.2.2.2.1) 10 z_3.2.2.2.2.2) (gu (gu (gu A 7 z_3.1) 8 z_3.2.1) 9 z_3.2.2.1)) rfl ?_
          refine g_goto (tgt := 140) K dX2_read_93 (by decide) ?_
          refine g_sub (L' := [(0, .ref hb), (2, .int x2)]) [0, 2] rfl ?_
          exact wX2_read_140 K hlt hRm hret ih z_3.1 z_3.2.1 z_3.2.2.1 o0 o1 o2 z_3.2.2.2.1 z_3.2.2.2.2.1 z_3.2.2.2.2.2 x2 h
        have h := hf9 q108; clear ht9 hf9
        obtain ⟨ht9, hf9⟩ := gi_br h; clear h
        by_cases q109 : z_1 = 109
        · have h := ht9 q109; clear ht9 hf9
          refine g_tabIn (tgt := 76) K dX2_read_18 (by rw [q109]; decide) (by rw [q109]; decide) (by rw [q109]; rfl) (by decide) ?_
          refine g_aload_n K dX2_read_76 rfl 0 rfl ?_
          refine g_ldcS (tx := "more ") K 0 (by decide +kernel) dX2_read_77 ?_
          refine g_iconst (v := 1) K dX2_read_79 (by decide) ?_
          obtain ⟨z_4, hz_4, h⟩ := gi_bd h
          refine g_callVv (As := [.ref (gK (g_E Γ) 0), .int 1]) (bytes := cX2_readGain) (maxL := 4) (ret := none) K (ctX2_readGain_s0 (gu (gu (gu (gu (gu (gu o 0 o0) 1 o1) 2 o2) 5 o5) 6 o6) 10 o10) (gu (gu (gu A 7 a7) 8 a8) 9 a9) 1 (res := z_4) hz_4) gc_V_RX2_51_X2_readGain rfl qv_X2_readGain 0 rfl rfl rfl hRm rfl rfl rfl (by decide) (Nat.le_of_ble_eq_true rfl) (by decide) dX2_read_80 (fun w hw => ?_)
          subst hw
          refine g_ws (ws' := hw (g_E Γ) hb tx rr N (gu (gu (gu (gu (gu (gu o 0 o0) 1 o1) 2 o2) 5 z_4.2.2.2.1) 6 z_4.2.2.2.2.1) 10 z_4.2.2.2.2.2) (gu (gu (gu A 7 z_4.1) 8 z_4.2.1) 9 z_4.2.2.1)) rfl ?_
          refine g_goto (tgt := 140) K dX2_read_83 (by decide) ?_
          refine g_sub (L' := [(0, .ref hb), (2, .int x2)]) [0, 2] rfl ?_
          exact wX2_read_140 K hlt hRm hret ih z_4.1 z_4.2.1 z_4.2.2.1 o0 o1 o2 z_4.2.2.2.1 z_4.2.2.2.2.1 z_4.2.2.2.2.2 x2 h
        have h := hf9 q109; clear ht9 hf9
        obtain ⟨ht9, hf9⟩ := gi_br h; clear h
        by_cases q111 : z_1 = 111
        · have h := ht9 q111; clear ht9 hf9
          refine g_tabIn (tgt := 109) K dX2_read_18 (by rw [q111]; decide) (by rw [q111]; decide) (by rw [q111]; rfl) (by decide) ?_
          refine g_aload_n K dX2_read_109 rfl 0 rfl ?_
          refine g_aload_n K dX2_read_110 rfl 0 rfl ?_
          refine g_ldcS (tx := "one ") K 4 (by decide +kernel) dX2_read_111 ?_
          obtain ⟨z_5, hz_5, h⟩ := gi_bd h
          refine g_callVi (As := [.ref (gK (g_E Γ) 4)]) (bytes := cX2_readShare) (maxL := 2) (ret := (some .int)) K (ctX2_readShare_s4 (gu (gu (gu (gu (gu (gu o 0 o0) 1 o1) 2 o2) 5 o5) 6 o6) 10 o10) (gu (gu (gu A 7 a7) 8 a8) 9 a9) (res := z_5) hz_5) gc_V_RX2_59_X2_readShare rfl qv_X2_readShare 0 rfl rfl rfl hRm rfl rfl rfl (by decide) (Nat.le_of_ble_eq_true rfl) (by decide) dX2_read_113 (fun v w hw => ?_)
          obtain ⟨hv9, rfl⟩ := hw; have hv9 := hv9.symm; subst hv9
          refine g_ws (ws' := hw (g_E Γ) hb tx rr N (gu (gu (gu (gu (gu (gu o 0 o0) 1 o1) 2 o2) 5 z_5.2.1) 6 z_5.2.2) 10 o10) (gu (gu (gu A 7 a7) 8 a8) 9 a9)) rfl ?_
          refine hp_1 (w' := hw (g_E Γ) hb tx rr N (gu (gu (gu (gu (gu (gu o 0 o0) 1 z_5.1) 2 o2) 5 z_5.2.1) 6 z_5.2.2) 10 o10) (gu (gu (gu A 7 a7) 8 a8) 9 a9)) K hin_X2 (u_120) rfl rfl dX2_read_116 rfl ?_
          refine g_goto (tgt := 140) K dX2_read_119 (by decide) ?_
          refine g_sub (L' := [(0, .ref hb), (2, .int x2)]) [0, 2] rfl ?_
          exact wX2_read_140 K hlt hRm hret ih a7 a8 a9 o0 z_5.1 o2 z_5.2.1 z_5.2.2 o10 x2 h
        have h := hf9 q111; clear ht9 hf9
        obtain ⟨ht9, hf9⟩ := gi_br h; clear h
        by_cases q112 : z_1 = 112
        · have h := ht9 q112; clear ht9 hf9
          refine g_tabIn (tgt := 122) K dX2_read_18 (by rw [q112]; decide) (by rw [q112]; decide) (by rw [q112]; rfl) (by decide) ?_
          refine g_aload_n K dX2_read_122 rfl 0 rfl ?_
          refine g_aload_n K dX2_read_123 rfl 0 rfl ?_
          refine g_ldcS (tx := "pay ") K 5 (by decide +kernel) dX2_read_124 ?_
          obtain ⟨z_6, hz_6, h⟩ := gi_bd h
          refine g_callVi (As := [.ref (gK (g_E Γ) 5)]) (bytes := cX2_readShare) (maxL := 2) (ret := (some .int)) K (ctX2_readShare_s5 (gu (gu (gu (gu (gu (gu o 0 o0) 1 o1) 2 o2) 5 o5) 6 o6) 10 o10) (gu (gu (gu A 7 a7) 8 a8) 9 a9) (res := z_6) hz_6) gc_V_RX2_59_X2_readShare rfl qv_X2_readShare 0 rfl rfl rfl hRm rfl rfl rfl (by decide) (Nat.le_of_ble_eq_true rfl) (by decide) dX2_read_126 (fun v w hw => ?_)
          obtain ⟨hv9, rfl⟩ := hw; have hv9 := hv9.symm; subst hv9
          refine g_ws (ws' := hw (g_E Γ) hb tx rr N (gu (gu (gu (gu (gu (gu o 0 o0) 1 o1) 2 o2) 5 z_6.2.1) 6 z_6.2.2) 10 o10) (gu (gu (gu A 7 a7) 8 a8) 9 a9)) rfl ?_
          refine hp_2 (w' := hw (g_E Γ) hb tx rr N (gu (gu (gu (gu (gu (gu o 0 o0) 1 o1) 2 z_6.1) 5 z_6.2.1) 6 z_6.2.2) 10 o10) (gu (gu (gu A 7 a7) 8 a8) 9 a9)) K hin_X2 (u_123) rfl rfl dX2_read_129 rfl ?_
          refine g_goto (tgt := 140) K dX2_read_132 (by decide) ?_
          refine g_sub (L' := [(0, .ref hb), (2, .int x2)]) [0, 2] rfl ?_
          exact wX2_read_140 K hlt hRm hret ih a7 a8 a9 o0 o1 z_6.1 z_6.2.1 z_6.2.2 o10 x2 h
        have h := hf9 q112; clear ht9 hf9
        refine g_tabDef (tgt := 135) K dX2_read_18 (by decide) ?_ (by decide) ?_
        · intro k9 hk9 e9
          have hk9 : k9 < 11 := hk9
          rcases (show k9 = 0 ∨ k9 = 1 ∨ k9 = 2 ∨ k9 = 3 ∨ k9 = 4 ∨ k9 = 5 ∨ k9 = 6 ∨ k9 = 7 ∨ k9 = 8 ∨ k9 = 9 ∨ k9 = 10 by omega) with rfl | rfl | rfl | rfl | rfl | rfl | rfl | rfl | rfl | rfl | rfl
          · exact absurd e9 (gi_ne q102 (by decide))
          · rfl
          · rfl
          · rfl
          · rfl
          · rfl
          · exact absurd e9 (gi_ne q108 (by decide))
          · exact absurd e9 (gi_ne q109 (by decide))
          · rfl
          · exact absurd e9 (gi_ne q111 (by decide))
          · exact absurd e9 (gi_ne q112 (by decide))
        refine g_aload_n K dX2_read_135 rfl 0 rfl ?_
        refine g_iconst (v := 1) K dX2_read_136 (by decide) ?_
        refine hp_6 (w' := hw (g_E Γ) hb tx rr N (gu (gu (gu (gu (gu (gu o 0 o0) 1 o1) 2 o2) 5 o5) 6 1) 10 o10) (gu (gu (gu A 7 a7) 8 a8) 9 a9)) K hin_X2 (u_128) (by decide) (by decide) dX2_read_137 rfl ?_
        refine g_sub (L' := [(0, .ref hb), (2, .int x2)]) [0, 2] rfl ?_
        exact wX2_read_140 K hlt hRm hret ih a7 a8 a9 o0 o1 o2 o5 1 o10 x2 h

set_option maxHeartbeats 4000000 in
set_option maxRecDepth 100000 in
theorem wX2_read {Γ : gT} {hb tx N : Nat} {rr : Nat → Nat} {o : Nat → Int32} {A : Nat → Nat → Int32} (K : gOK Γ cX2_read gU RX2) (hlt : ∀ i, i < 3 → i < g_n Γ) (hRm : g_R Γ = ({ frames := 48, cells := 0, slots := 0, locals := 1805 } : Room)) {res : Int32 × ((Nat → Int32)) × ((Nat → Int32)) × ((Nat → Int32)) × Int32 × Int32 × Int32 × Int32 × Int32 × Int32} (hret : ∀ (pc : Nat) (L : List (Nat × Value)) (v : Int32) (w : va_W), decode cX2_read pc = .ok (.ireturn, 1) → narrow .int (.int v) = .int v → (v = res.1 ∧ w = hw (g_E Γ) hb tx rr N (gu (gu (gu (gu (gu (gu o 0 res.2.2.2.2.1) 1 res.2.2.2.2.2.1) 2 res.2.2.2.2.2.2.1) 5 res.2.2.2.2.2.2.2.1) 6 res.2.2.2.2.2.2.2.2.1) 10 res.2.2.2.2.2.2.2.2.2) (gu (gu (gu A 7 res.2.1) 8 res.2.2.1) 9 res.2.2.2.1)) → gGO Γ 0 0 pc L [.int v] w) (a7 : (Nat → Int32)) (a8 : (Nat → Int32)) (a9 : (Nat → Int32)) (o0 : Int32) (o1 : Int32) (o2 : Int32) (o5 : Int32) (o6 : Int32) (o10 : Int32) (h : pX2_read N (A 3) (o 4) a7 a8 a9 o0 o1 o2 o5 o6 o10 = some res) : gGO Γ 0 0 0 [(0, .ref hb)] [] (hw (g_E Γ) hb tx rr N (gu (gu (gu (gu (gu (gu o 0 o0) 1 o1) 2 o2) 5 o5) 6 o6) 10 o10) (gu (gu (gu A 7 a7) 8 a8) 9 a9)) := by
    unfold pX2_read at h
    refine g_iconst (v := 1) K dX2_read_0 (by decide) ?_
    refine g_istore_n (L' := [(1, .int 1), (0, .ref hb)]) K dX2_read_1 rfl (hlt _ (by decide)) rfl ?_
    refine g_iconst (v := 1) K dX2_read_2 (by decide) ?_
    refine g_istore_n (L' := [(2, .int 1), (1, .int 1), (0, .ref hb)]) K dX2_read_3 rfl (hlt _ (by decide)) rfl ?_
    refine g_sub (L' := [(0, .ref hb), (1, .int 1), (2, .int 1)]) [2, 1, 0] rfl ?_
    exact wX2_read_4 K hlt hRm hret 1000 a7 a8 a9 o0 o1 o2 o5 o6 o10 1 1 h

set_option maxRecDepth 100000 in
theorem ctX2_read {E : gE} {hb tx N : Nat} {rr : Nat → Nat} (o : Nat → Int32) (A : Nat → Nat → Int32) {res : Int32 × ((Nat → Int32)) × ((Nat → Int32)) × ((Nat → Int32)) × Int32 × Int32 × Int32 × Int32 × Int32 × Int32} (h : pX2_read N (A 3) (o 4) (A 7) (A 8) (A 9) (o 0) (o 1) (o 2) (o 5) (o 6) (o 10) = some res) : gMi yX2_read (.code yX2_read cX2_read 3 (some .int) :: gU) ({ frames := 48, cells := 0, slots := 0, locals := 1805 } : Room) 0 0 E [.ref hb] (hw E hb tx rr N o A) (fun v w => v = res.1 ∧ w = hw E hb tx rr N (gu (gu (gu (gu (gu (gu o 0 res.2.2.2.2.1) 1 res.2.2.2.2.2.1) 2 res.2.2.2.2.2.2.1) 5 res.2.2.2.2.2.2.2.1) 6 res.2.2.2.2.2.2.2.2.1) 10 res.2.2.2.2.2.2.2.2.2) (gu (gu (gu A 7 res.2.1) 8 res.2.2.1) 9 res.2.2.2.1)) := by
  refine g_met_i (by decide +kernel) (Nat.le_of_ble_eq_true rfl) (fun Γ K hn hE hRm _ hret => ?_)
  subst hE
  have hlt : ∀ i, i < 3 → i < g_n Γ := fun i q => by rw [hn]; exact q
  refine g_ws (ws' := hw (g_E Γ) hb tx rr N (gu (gu (gu (gu (gu (gu o 0 (o 0)) 1 (o 1)) 2 (o 2)) 5 (o 5)) 6 (o 6)) 10 (o 10)) (gu (gu (gu A 7 (A 7)) 8 (A 8)) 9 (A 9))) rfl ?_
  refine g_sub (L' := [(0, .ref hb)]) [0] rfl ?_
  exact wX2_read K hlt hRm hret (A 7) (A 8) (A 9) (o 0) (o 1) (o 2) (o 5) (o 6) (o 10) h

