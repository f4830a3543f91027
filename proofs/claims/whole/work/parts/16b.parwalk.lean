set_option maxHeartbeats 4000000 in
set_option maxRecDepth 100000 in
theorem wX12_house_165 {Γ : gT} {m : Nat} {r : Nat → Nat} {o : Nat → Int32} {A : Nat → Nat → Int32} (K : gOK Γ cX12_house gU RX12) (hlt : ∀ i, i < 2 → i < g_n Γ) (hRm : g_R Γ = ({ frames := 49, cells := 0, slots := 0, locals := 1823 } : Room)) {res : Int32 × ((Nat → Int32)) × Int32 × Int32 × Int32 × Int32 × Int32} (hret : ∀ (pc : Nat) (L : List (Nat × Value)) (v : Int32) (w : va_W), decode cX12_house pc = .ok (.ireturn, 1) → narrow .int (.int v) = .int v → (v = res.1 ∧ w = mw (g_E Γ) m r (gu (gu (gu (gu (gu o 5 res.2.2.1) 6 res.2.2.2.1) 7 res.2.2.2.2.1) 8 res.2.2.2.2.2.1) 9 res.2.2.2.2.2.2) (gu A 1 res.2.1)) → gGO Γ 0 0 pc L [.int v] w) (a1 : (Nat → Int32)) (o5 : Int32) (o6 : Int32) (o7 : Int32) (o8 : Int32) (o9 : Int32) (h : pX12_house_165 a1 o5 o6 o7 o8 o9 = some res) : gGO Γ 0 0 165 [(0, .ref m)] [] (mw (g_E Γ) m r (gu (gu (gu (gu (gu o 5 o5) 6 o6) 7 o7) 8 o8) 9 o9) (gu A 1 a1)) := by
    unfold pX12_house_165 at h
    refine g_aload_n K dX12_house_165 rfl 0 rfl ?_
    refine mg_8 (v := o8) K hin_X12 (u_987) rfl dX12_house_166 ?_
    obtain ⟨ht9, hf9⟩ := gi_br h; clear h
    refine g_if_ne (tgt := 183) K dX12_house_169 (by decide) (fun qh => ?_) (fun qh => ?_)
    · have h := hf9 qh; clear ht9 hf9
      refine g_bipush (v := (-10)) K dX12_house_183 (by decide) ?_
      refine g_aload_n K dX12_house_185 rfl 0 rfl ?_
      refine mg_6 (v := o6) K hin_X12 (u_985) rfl dX12_house_186 ?_
      refine g_isub K dX12_house_189 ?_
      obtain rfl := Option.some.inj h
      exact hret _ _ _ _ dX12_house_190 rfl ⟨rfl, rfl⟩
    · have h := ht9 qh; clear ht9 hf9
      refine g_aload_n K dX12_house_172 rfl 0 rfl ?_
      refine mg_6 (v := o6) K hin_X12 (u_985) rfl dX12_house_173 ?_
      refine g_aload_n K dX12_house_176 rfl 0 rfl ?_
      refine mg_7 (v := o7) K hin_X12 (u_986) rfl dX12_house_177 ?_
      obtain ⟨ht9, hf9⟩ := gi_br h; clear h
      refine g_icmp_eq (tgt := 191) K dX12_house_180 (by decide) (fun qh => ?_) (fun qh => ?_)
      · have h := ht9 qh; clear ht9 hf9
        refine g_aload_n K dX12_house_191 rfl 0 rfl ?_
        refine mg_1 K hin_X12 (u_980) dX12_house_192 ?_
        refine g_bipush (v := 53) K dX12_house_195 (by decide) ?_
        refine g_dup2 K dX12_house_197 rfl rfl ?_
        obtain ⟨b_1, h⟩ := gi_none h
        refine g_iald (f := a1) K 1 rfl (ginb_in b_1) dX12_house_198 ?_
        refine g_iconst (v := 1) K dX12_house_199 (by decide) ?_
        refine g_iadd K dX12_house_200 ?_
        obtain ⟨b_2, h⟩ := gi_none h
        obtain ⟨f_3, ef_3, h⟩ := gi_nm h
        refine g_iast (f := a1) (ws' := mw (g_E Γ) m r (gu (gu (gu (gu (gu o 5 o5) 6 o6) 7 o7) 8 o8) 9 o9) (gu A 1 f_3)) K 1 rfl (ginb_in b_2) dX12_house_201 (by rw [ef_3]; rfl) ?_
        refine g_aload_n K dX12_house_202 rfl 0 rfl ?_
        refine mg_1 K hin_X12 (u_980) dX12_house_203 ?_
        refine g_bipush (v := 56) K dX12_house_206 (by decide) ?_
        refine g_aload_n K dX12_house_208 rfl 0 rfl ?_
        refine mg_5 (v := o5) K hin_X12 (u_984) rfl dX12_house_209 ?_
        obtain ⟨b_4, h⟩ := gi_none h
        obtain ⟨f_5, ef_5, h⟩ := gi_nm h
        refine g_iast (f := f_3) (ws' := mw (g_E Γ) m r (gu (gu (gu (gu (gu o 5 o5) 6 o6) 7 o7) 8 o8) 9 o9) (gu A 1 f_5)) K 1 rfl (ginb_in b_4) dX12_house_212 (by rw [ef_5]; rfl) ?_
        refine g_aload_n K dX12_house_213 rfl 0 rfl ?_
        refine mg_5 (v := o5) K hin_X12 (u_984) rfl dX12_house_214 ?_
        obtain rfl := Option.some.inj h
        exact hret _ _ _ _ dX12_house_217 rfl ⟨rfl, rfl⟩
      · have h := hf9 qh; clear ht9 hf9
        refine g_bipush (v := (-10)) K dX12_house_183 (by decide) ?_
        refine g_aload_n K dX12_house_185 rfl 0 rfl ?_
        refine mg_6 (v := o6) K hin_X12 (u_985) rfl dX12_house_186 ?_
        refine g_isub K dX12_house_189 ?_
        obtain rfl := Option.some.inj h
        exact hret _ _ _ _ dX12_house_190 rfl ⟨rfl, rfl⟩

set_option maxHeartbeats 4000000 in
set_option maxRecDepth 100000 in
theorem wX12_house_123 {Γ : gT} {m : Nat} {r : Nat → Nat} {o : Nat → Int32} {A : Nat → Nat → Int32} (K : gOK Γ cX12_house gU RX12) (hlt : ∀ i, i < 2 → i < g_n Γ) (hRm : g_R Γ = ({ frames := 49, cells := 0, slots := 0, locals := 1823 } : Room)) {res : Int32 × ((Nat → Int32)) × Int32 × Int32 × Int32 × Int32 × Int32} (hret : ∀ (pc : Nat) (L : List (Nat × Value)) (v : Int32) (w : va_W), decode cX12_house pc = .ok (.ireturn, 1) → narrow .int (.int v) = .int v → (v = res.1 ∧ w = mw (g_E Γ) m r (gu (gu (gu (gu (gu o 5 res.2.2.1) 6 res.2.2.2.1) 7 res.2.2.2.2.1) 8 res.2.2.2.2.2.1) 9 res.2.2.2.2.2.2) (gu A 1 res.2.1)) → gGO Γ 0 0 pc L [.int v] w) : ∀ (n : Nat) (a1 : (Nat → Int32)) (o5 : Int32) (o6 : Int32) (o7 : Int32) (o8 : Int32) (o9 : Int32) (x1 : Int32), pX12_house_123 n a1 o5 o6 o7 o8 o9 x1 = some res → gGO Γ 0 0 123 [(0, .ref m), (1, .int x1)] [] (mw (g_E Γ) m r (gu (gu (gu (gu (gu o 5 o5) 6 o6) 7 o7) 8 o8) 9 o9) (gu A 1 a1)) := by
  intro n
  induction n with
  | zero => intro _ _ _ _ _ _ _ h; cases h
  | succ n ih =>
    intro a1 o5 o6 o7 o8 o9 x1 h
    simp only [pX12_house_123] at h
    refine g_aload_n K dX12_house_123 rfl 0 rfl ?_
    refine mg_8 (v := o8) K hin_X12 (u_987) rfl dX12_house_124 ?_
    obtain ⟨ht9, hf9⟩ := gi_br h; clear h
    refine g_if_ne (tgt := 165) K dX12_house_127 (by decide) (fun qh => ?_) (fun qh => ?_)
    · have h := hf9 qh; clear ht9 hf9
      refine g_sub (L' := [(0, .ref m)]) [0] rfl ?_
      exact wX12_house_165 K hlt hRm hret a1 o5 o6 o7 o8 o9 h
    · have h := ht9 qh; clear ht9 hf9
      refine g_iload_n K dX12_house_130 rfl 1 rfl ?_
      refine g_bipush (v := 10) K dX12_house_131 (by decide) ?_
      obtain ⟨ht9, hf9⟩ := gi_br h; clear h
      refine g_icmp_ge (tgt := 165) K dX12_house_133 (by decide) (fun qh => ?_) (fun qh => ?_)
      · have h := ht9 qh; clear ht9 hf9
        refine g_sub (L' := [(0, .ref m)]) [0] rfl ?_
        exact wX12_house_165 K hlt hRm hret a1 o5 o6 o7 o8 o9 h
      · have h := hf9 qh; clear ht9 hf9
        refine g_aload_n K dX12_house_136 rfl 0 rfl ?_
        obtain ⟨z_1, hz_1, h⟩ := gi_bd h
        refine g_callVi (As := []) (bytes := cX12_here) (maxL := 1) (ret := (some .int)) K (ctX12_here (gu (gu (gu (gu (gu o 5 o5) 6 o6) 7 o7) 8 o8) 9 o9) (gu A 1 a1) (res := z_1) hz_1) gc_V_RX12_64_X12_here rfl qv_X12_here 0 rfl rfl rfl hRm rfl rfl rfl (by decide) (Nat.le_of_ble_eq_true rfl) (by decide) dX12_house_137 (fun v w hw => ?_)
        obtain ⟨hv9, rfl⟩ := hw; have hv9 := hv9.symm; subst hv9
        refine g_bipush (v := 59) K dX12_house_140 (by decide) ?_
        obtain ⟨ht9, hf9⟩ := gi_br h; clear h
        refine g_icmp_ne (tgt := 165) K dX12_house_142 (by decide) (fun qh => ?_) (fun qh => ?_)
        · have h := hf9 qh; clear ht9 hf9
          refine g_sub (L' := [(0, .ref m)]) [0] rfl ?_
          exact wX12_house_165 K hlt hRm hret a1 o5 o6 o7 o8 o9 h
        · have h := ht9 qh; clear ht9 hf9
          refine g_aload_n K dX12_house_145 rfl 0 rfl ?_
          refine g_dup K dX12_house_146 rfl ?_
          refine mg_6 (v := o6) K hin_X12 (u_985) rfl dX12_house_147 ?_
          refine g_iconst (v := 1) K dX12_house_150 (by decide) ?_
          refine g_iadd K dX12_house_151 ?_
          refine mp_6 (w' := mw (g_E Γ) m r (gu (gu (gu (gu (gu o 5 o5) 6 (o6 + 1)) 7 o7) 8 o8) 9 o9) (gu A 1 a1)) K hin_X12 (u_985) rfl rfl dX12_house_152 rfl ?_
          refine g_aload_n K dX12_house_155 rfl 0 rfl ?_
          obtain ⟨z_2, hz_2, h⟩ := gi_bd h
          refine g_callVv (As := []) (bytes := cX12_clauseHere) (maxL := 1) (ret := none) K (ctX12_clauseHere (gu (gu (gu (gu (gu o 5 o5) 6 (o6 + 1)) 7 o7) 8 o8) 9 o9) (gu A 1 a1) (res := z_2) hz_2) gc_V_RX12_131_X12_clauseHere rfl qv_X12_clauseHere 0 rfl rfl rfl hRm rfl rfl rfl (by decide) (Nat.le_of_ble_eq_true rfl) (by decide) dX12_house_156 (fun w hw => ?_)
          subst hw
          refine g_ws (ws' := mw (g_E Γ) m r (gu (gu (gu (gu (gu o 5 o5) 6 z_2.2.1) 7 o7) 8 z_2.2.2.1) 9 z_2.2.2.2) (gu A 1 z_2.1)) rfl ?_
          refine g_iinc (v := (x1 + 1)) (L' := [(1, .int (x1 + 1)), (0, .ref m)]) K dX12_house_159 1 rfl rfl (hlt _ (by decide)) rfl ?_
          refine g_goto (tgt := 123) K dX12_house_162 (by decide) ?_
          refine g_sub (L' := [(0, .ref m), (1, .int (x1 + 1))]) [1, 0] rfl ?_
          exact ih z_2.1 o5 z_2.2.1 o7 z_2.2.2.1 z_2.2.2.2 (x1 + 1) h

set_option maxHeartbeats 4000000 in
set_option maxRecDepth 100000 in
theorem wX12_house {Γ : gT} {m : Nat} {r : Nat → Nat} {o : Nat → Int32} {A : Nat → Nat → Int32} (K : gOK Γ cX12_house gU RX12) (hlt : ∀ i, i < 2 → i < g_n Γ) (hRm : g_R Γ = ({ frames := 49, cells := 0, slots := 0, locals := 1823 } : Room)) {res : Int32 × ((Nat → Int32)) × Int32 × Int32 × Int32 × Int32 × Int32} (hret : ∀ (pc : Nat) (L : List (Nat × Value)) (v : Int32) (w : va_W), decode cX12_house pc = .ok (.ireturn, 1) → narrow .int (.int v) = .int v → (v = res.1 ∧ w = mw (g_E Γ) m r (gu (gu (gu (gu (gu o 5 res.2.2.1) 6 res.2.2.2.1) 7 res.2.2.2.2.1) 8 res.2.2.2.2.2.1) 9 res.2.2.2.2.2.2) (gu A 1 res.2.1)) → gGO Γ 0 0 pc L [.int v] w) (a1 : (Nat → Int32)) (o5 : Int32) (o6 : Int32) (o7 : Int32) (o8 : Int32) (o9 : Int32) (h : pX12_house a1 o5 o6 o7 o8 o9 = some res) : gGO Γ 0 0 0 [(0, .ref m)] [] (mw (g_E Γ) m r (gu (gu (gu (gu (gu o 5 o5) 6 o6) 7 o7) 8 o8) 9 o9) (gu A 1 a1)) := by
    unfold pX12_house at h
    refine g_aload_n K dX12_house_0 rfl 0 rfl ?_
    refine mg_1 K hin_X12 (u_980) dX12_house_1 ?_
    refine g_bipush (v := 53) K dX12_house_4 (by decide) ?_
    obtain ⟨b_1, h⟩ := gi_none h
    refine g_iald (f := a1) K 1 rfl (ginb_in b_1) dX12_house_6 ?_
    refine g_iconst (v := 5) K dX12_house_7 (by decide) ?_
    obtain ⟨ht9, hf9⟩ := gi_br h; clear h
    refine g_icmp_ne (tgt := 14) K dX12_house_8 (by decide) (fun qh => ?_) (fun qh => ?_)
    · have h := hf9 qh; clear ht9 hf9
      refine g_aload_n K dX12_house_14 rfl 0 rfl ?_
      refine g_aload_n K dX12_house_15 rfl 0 rfl ?_
      refine mg_1 K hin_X12 (u_980) dX12_house_16 ?_
      refine g_bipush (v := 53) K dX12_house_19 (by decide) ?_
      obtain ⟨b_2, h⟩ := gi_none h
      refine g_iald (f := a1) K 1 rfl (ginb_in b_2) dX12_house_21 ?_
      refine mp_5 (w' := mw (g_E Γ) m r (gu (gu (gu (gu (gu o 5 (a1 (Int32.toNatClampNeg 53))) 6 o6) 7 o7) 8 o8) 9 o9) (gu A 1 a1)) K hin_X12 (u_984) rfl rfl dX12_house_22 rfl ?_
      refine g_aload_n K dX12_house_25 rfl 0 rfl ?_
      refine g_aload_n K dX12_house_26 rfl 0 rfl ?_
      refine mg_1 K hin_X12 (u_980) dX12_house_27 ?_
      refine g_bipush (v := 55) K dX12_house_30 (by decide) ?_
      obtain ⟨b_3, h⟩ := gi_none h
      refine g_iald (f := a1) K 1 rfl (ginb_in b_3) dX12_house_32 ?_
      refine mp_7 (w' := mw (g_E Γ) m r (gu (gu (gu (gu (gu o 5 (a1 (Int32.toNatClampNeg 53))) 6 o6) 7 (a1 (Int32.toNatClampNeg 55))) 8 o8) 9 o9) (gu A 1 a1)) K hin_X12 (u_986) rfl rfl dX12_house_33 rfl ?_
      refine g_aload_n K dX12_house_36 rfl 0 rfl ?_
      refine mg_1 K hin_X12 (u_980) dX12_house_37 ?_
      refine g_bipush (v := 55) K dX12_house_40 (by decide) ?_
      refine g_iconst (v := 0) K dX12_house_42 (by decide) ?_
      obtain ⟨b_4, h⟩ := gi_none h
      obtain ⟨f_5, ef_5, h⟩ := gi_nm h
      refine g_iast (f := a1) (ws' := mw (g_E Γ) m r (gu (gu (gu (gu (gu o 5 (a1 (Int32.toNatClampNeg 53))) 6 o6) 7 (a1 (Int32.toNatClampNeg 55))) 8 o8) 9 o9) (gu A 1 f_5)) K 1 rfl (ginb_in b_4) dX12_house_43 (by rw [ef_5]; rfl) ?_
      refine g_aload_n K dX12_house_44 rfl 0 rfl ?_
      refine mg_1 K hin_X12 (u_980) dX12_house_45 ?_
      refine g_sipush (v := 232) K dX12_house_48 (by decide) ?_
      refine g_aload_n K dX12_house_51 rfl 0 rfl ?_
      refine mg_5 (v := (a1 (Int32.toNatClampNeg 53))) K hin_X12 (u_984) rfl dX12_house_52 ?_
      refine g_iadd K dX12_house_55 ?_
      refine g_bipush (v := 10) K dX12_house_56 (by decide) ?_
      obtain ⟨b_6, h⟩ := gi_none h
      obtain ⟨f_7, ef_7, h⟩ := gi_nm h
      refine g_iast (f := f_5) (ws' := mw (g_E Γ) m r (gu (gu (gu (gu (gu o 5 (a1 (Int32.toNatClampNeg 53))) 6 o6) 7 (a1 (Int32.toNatClampNeg 55))) 8 o8) 9 o9) (gu A 1 f_7)) K 1 rfl (ginb_in b_6) dX12_house_58 (by rw [ef_7]; rfl) ?_
      refine g_aload_n K dX12_house_59 rfl 0 rfl ?_
      refine mg_1 K hin_X12 (u_980) dX12_house_60 ?_
      refine g_sipush (v := 237) K dX12_house_63 (by decide) ?_
      refine g_aload_n K dX12_house_66 rfl 0 rfl ?_
      refine mg_5 (v := (a1 (Int32.toNatClampNeg 53))) K hin_X12 (u_984) rfl dX12_house_67 ?_
      refine g_iadd K dX12_house_70 ?_
      refine g_iconst (v := 0) K dX12_house_71 (by decide) ?_
      obtain ⟨b_8, h⟩ := gi_none h
      obtain ⟨f_9, ef_9, h⟩ := gi_nm h
      refine g_iast (f := f_7) (ws' := mw (g_E Γ) m r (gu (gu (gu (gu (gu o 5 (a1 (Int32.toNatClampNeg 53))) 6 o6) 7 (a1 (Int32.toNatClampNeg 55))) 8 o8) 9 o9) (gu A 1 f_9)) K 1 rfl (ginb_in b_8) dX12_house_72 (by rw [ef_9]; rfl) ?_
      refine g_aload_n K dX12_house_73 rfl 0 rfl ?_
      refine mg_1 K hin_X12 (u_980) dX12_house_74 ?_
      refine g_sipush (v := 242) K dX12_house_77 (by decide) ?_
      refine g_aload_n K dX12_house_80 rfl 0 rfl ?_
      refine mg_5 (v := (a1 (Int32.toNatClampNeg 53))) K hin_X12 (u_984) rfl dX12_house_81 ?_
      refine g_iadd K dX12_house_84 ?_
      refine g_bipush (v := 10) K dX12_house_85 (by decide) ?_
      obtain ⟨b_10, h⟩ := gi_none h
      obtain ⟨f_11, ef_11, h⟩ := gi_nm h
      refine g_iast (f := f_9) (ws' := mw (g_E Γ) m r (gu (gu (gu (gu (gu o 5 (a1 (Int32.toNatClampNeg 53))) 6 o6) 7 (a1 (Int32.toNatClampNeg 55))) 8 o8) 9 o9) (gu A 1 f_11)) K 1 rfl (ginb_in b_10) dX12_house_87 (by rw [ef_11]; rfl) ?_
      refine g_aload_n K dX12_house_88 rfl 0 rfl ?_
      refine mg_1 K hin_X12 (u_980) dX12_house_89 ?_
      refine g_sipush (v := 247) K dX12_house_92 (by decide) ?_
      refine g_aload_n K dX12_house_95 rfl 0 rfl ?_
      refine mg_5 (v := (a1 (Int32.toNatClampNeg 53))) K hin_X12 (u_984) rfl dX12_house_96 ?_
      refine g_iadd K dX12_house_99 ?_
      refine g_iconst (v := 0) K dX12_house_100 (by decide) ?_
      obtain ⟨b_12, h⟩ := gi_none h
      obtain ⟨f_13, ef_13, h⟩ := gi_nm h
      refine g_iast (f := f_11) (ws' := mw (g_E Γ) m r (gu (gu (gu (gu (gu o 5 (a1 (Int32.toNatClampNeg 53))) 6 o6) 7 (a1 (Int32.toNatClampNeg 55))) 8 o8) 9 o9) (gu A 1 f_13)) K 1 rfl (ginb_in b_12) dX12_house_101 (by rw [ef_13]; rfl) ?_
      refine g_aload_n K dX12_house_102 rfl 0 rfl ?_
      refine g_iconst (v := 0) K dX12_house_103 (by decide) ?_
      refine mp_6 (w' := mw (g_E Γ) m r (gu (gu (gu (gu (gu o 5 (a1 (Int32.toNatClampNeg 53))) 6 0) 7 (a1 (Int32.toNatClampNeg 55))) 8 o8) 9 o9) (gu A 1 f_13)) K hin_X12 (u_985) rfl rfl dX12_house_104 rfl ?_
      refine g_aload_n K dX12_house_107 rfl 0 rfl ?_
      refine g_iconst (v := 0) K dX12_house_108 (by decide) ?_
      refine mp_8 (w' := mw (g_E Γ) m r (gu (gu (gu (gu (gu o 5 (a1 (Int32.toNatClampNeg 53))) 6 0) 7 (a1 (Int32.toNatClampNeg 55))) 8 0) 9 o9) (gu A 1 f_13)) K hin_X12 (u_987) (by decide) (by decide) dX12_house_109 rfl ?_
      refine g_aload_n K dX12_house_112 rfl 0 rfl ?_
      refine g_iconst (v := 0) K dX12_house_113 (by decide) ?_
      refine mp_9 (w' := mw (g_E Γ) m r (gu (gu (gu (gu (gu o 5 (a1 (Int32.toNatClampNeg 53))) 6 0) 7 (a1 (Int32.toNatClampNeg 55))) 8 0) 9 0) (gu A 1 f_13)) K hin_X12 (u_988) rfl rfl dX12_house_114 rfl ?_
      refine g_iconst (v := 1) K dX12_house_117 (by decide) ?_
      refine g_istore_n (L' := [(1, .int 1), (0, .ref m)]) K dX12_house_118 rfl (hlt _ (by decide)) rfl ?_
      refine g_aload_n K dX12_house_119 rfl 1 rfl ?_
      obtain ⟨z_14, hz_14, h⟩ := gi_bd h
      refine g_callVv (As := []) (bytes := cX12_clauseHere) (maxL := 1) (ret := none) K (ctX12_clauseHere (gu (gu (gu (gu (gu o 5 (a1 (Int32.toNatClampNeg 53))) 6 0) 7 (a1 (Int32.toNatClampNeg 55))) 8 0) 9 0) (gu A 1 f_13) (res := z_14) hz_14) gc_V_RX12_131_X12_clauseHere rfl qv_X12_clauseHere 0 rfl rfl rfl hRm rfl rfl rfl (by decide) (Nat.le_of_ble_eq_true rfl) (by decide) dX12_house_120 (fun w hw => ?_)
      subst hw
      refine g_ws (ws' := mw (g_E Γ) m r (gu (gu (gu (gu (gu o 5 (a1 (Int32.toNatClampNeg 53))) 6 z_14.2.1) 7 (a1 (Int32.toNatClampNeg 55))) 8 z_14.2.2.1) 9 z_14.2.2.2) (gu A 1 z_14.1)) rfl ?_
      refine g_sub (L' := [(0, .ref m), (1, .int 1)]) [1, 0] rfl ?_
      exact wX12_house_123 K hlt hRm hret 1000 z_14.1 (a1 (Int32.toNatClampNeg 53)) z_14.2.1 (a1 (Int32.toNatClampNeg 55)) z_14.2.2.1 z_14.2.2.2 1 h
    · have h := ht9 qh; clear ht9 hf9
      refine g_bipush (v := (-4)) K dX12_house_11 (by decide) ?_
      obtain rfl := Option.some.inj h
      exact hret _ _ _ _ dX12_house_13 rfl ⟨rfl, rfl⟩

set_option maxRecDepth 100000 in
theorem ctX12_house {E : gE} {m : Nat} {r : Nat → Nat} (o : Nat → Int32) (A : Nat → Nat → Int32) {res : Int32 × ((Nat → Int32)) × Int32 × Int32 × Int32 × Int32 × Int32} (h : pX12_house (A 1) (o 5) (o 6) (o 7) (o 8) (o 9) = some res) : gMi yX12_house (.code yX12_house cX12_house 2 (some .int) :: gU) ({ frames := 49, cells := 0, slots := 0, locals := 1823 } : Room) 0 0 E [.ref m] (mw E m r o A) (fun v w => v = res.1 ∧ w = mw E m r (gu (gu (gu (gu (gu o 5 res.2.2.1) 6 res.2.2.2.1) 7 res.2.2.2.2.1) 8 res.2.2.2.2.2.1) 9 res.2.2.2.2.2.2) (gu A 1 res.2.1)) := by
  refine g_met_i (by decide +kernel) (Nat.le_of_ble_eq_true rfl) (fun Γ K hn hE hRm _ hret => ?_)
  subst hE
  have hlt : ∀ i, i < 2 → i < g_n Γ := fun i q => by rw [hn]; exact q
  refine g_ws (ws' := mw (g_E Γ) m r (gu (gu (gu (gu (gu o 5 (o 5)) 6 (o 6)) 7 (o 7)) 8 (o 8)) 9 (o 9)) (gu A 1 (A 1))) rfl ?_
  refine g_sub (L' := [(0, .ref m)]) [0] rfl ?_
  exact wX12_house K hlt hRm hret (A 1) (o 5) (o 6) (o 7) (o 8) (o 9) h

