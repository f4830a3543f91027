set_option maxHeartbeats 4000000 in
set_option maxRecDepth 100000 in
theorem wX11_moved {Γ : gT} {q : Nat → Nat} {r : Nat → Nat → Nat} {F : gF} (hF : gFz (g_E Γ) F) {o0 : Nat → Int32} {A0 : Nat → Nat → Int32} {C0 : Nat → Option Nat} {h0 : Nat} {o1 : Nat → Int32} {A1 : Nat → Nat → Int32} {C1 : Nat → Option Nat} {h1 : Nat} {o2 : Nat → Int32} {A2 : Nat → Nat → Int32} {C2 : Nat → Option Nat} {h2 : Nat} {gs0 : Int32} {gA : Nat → Nat → Int32} {tb0 : Int32} {tA0 bf0 : Nat → Int32} {hi0 : Int32} (K : gOK Γ cX11_moved gU RX11) (hlt : ∀ i, i < 4 → i < g_n Γ) (hRm : g_R Γ = ({ frames := 11, cells := 0, slots := 0, locals := 305 } : Room)) {res : Int32 × Int32 × Int32 × Int32 × Int32 × Int32 × Int32 × Int32 × Int32 × ((Nat → Int32)) × ((Nat → Int32)) × ((Nat → Int32)) × ((Nat → Int32)) × ((Nat → Int32)) × ((Nat → Int32)) × ((Nat → Int32)) × ((Nat → Int32)) × ((Nat → Int32)) × Nat × ((Nat → Option Nat)) × Int32 × ((Nat → Int32)) × ((Nat → Int32)) × ((Nat → Int32)) × ((Nat → Int32)) × ((Nat → Int32))} (hret : ∀ (pc : Nat) (L : List (Nat × Value)) (v : Int32) (w : va_W), decode cX11_moved pc = .ok (.ireturn, 1) → narrow .int (.int v) = .int v → (v = res.1 ∧ w = cw (g_E Γ) q r (gpl F) o0 A0 C0 h0 (gu (gu (gu (gu (gu (gu (gu (gu o1 0 res.2.1) 1 res.2.2.1) 2 res.2.2.2.1) 3 res.2.2.2.2.1) 4 res.2.2.2.2.2.1) 5 res.2.2.2.2.2.2.1) 6 res.2.2.2.2.2.2.2.1) 7 res.2.2.2.2.2.2.2.2.1) (gu (gu (gu (gu (gu (gu (gu (gu (gu A1 8 res.2.2.2.2.2.2.2.2.2.1) 9 res.2.2.2.2.2.2.2.2.2.2.1) 10 res.2.2.2.2.2.2.2.2.2.2.2.1) 11 res.2.2.2.2.2.2.2.2.2.2.2.2.1) 12 res.2.2.2.2.2.2.2.2.2.2.2.2.2.1) 14 res.2.2.2.2.2.2.2.2.2.2.2.2.2.2.1) 15 res.2.2.2.2.2.2.2.2.2.2.2.2.2.2.2.1) 16 res.2.2.2.2.2.2.2.2.2.2.2.2.2.2.2.2.1) 17 res.2.2.2.2.2.2.2.2.2.2.2.2.2.2.2.2.2.1) res.2.2.2.2.2.2.2.2.2.2.2.2.2.2.2.2.2.2.2.1 res.2.2.2.2.2.2.2.2.2.2.2.2.2.2.2.2.2.2.1 o2 A2 C2 h2 res.2.2.2.2.2.2.2.2.2.2.2.2.2.2.2.2.2.2.2.2.1 (gu (gu (gu (gu (gu gA 0 res.2.2.2.2.2.2.2.2.2.2.2.2.2.2.2.2.2.2.2.2.2.1) 1 res.2.2.2.2.2.2.2.2.2.2.2.2.2.2.2.2.2.2.2.2.2.2.1) 2 res.2.2.2.2.2.2.2.2.2.2.2.2.2.2.2.2.2.2.2.2.2.2.2.1) 3 res.2.2.2.2.2.2.2.2.2.2.2.2.2.2.2.2.2.2.2.2.2.2.2.2.1) 5 res.2.2.2.2.2.2.2.2.2.2.2.2.2.2.2.2.2.2.2.2.2.2.2.2.2) tb0 tA0 bf0 hi0) → gGO Γ 0 0 pc L [.int v] w) (w1o0 : Int32) (w1o1 : Int32) (w1o2 : Int32) (w1o3 : Int32) (w1o4 : Int32) (w1o5 : Int32) (w1o6 : Int32) (w1o7 : Int32) (w1a8 : (Nat → Int32)) (w1a9 : (Nat → Int32)) (w1a10 : (Nat → Int32)) (w1a11 : (Nat → Int32)) (w1a12 : (Nat → Int32)) (w1a14 : (Nat → Int32)) (w1a15 : (Nat → Int32)) (w1a16 : (Nat → Int32)) (w1a17 : (Nat → Int32)) (w1h : Nat) (w1c : (Nat → Option Nat)) (gs : Int32) (ga0 : (Nat → Int32)) (ga1 : (Nat → Int32)) (ga2 : (Nat → Int32)) (ga3 : (Nat → Int32)) (ga5 : (Nat → Int32)) (x1 : Int32) (x2 : Int32) (h : pX11_moved F (o0 0) (o0 1) (o0 2) (o0 3) (o0 4) (o0 5) (o0 6) (o0 7) (A0 8) (A0 9) (A0 10) (A0 11) (A0 12) (A0 14) (A0 15) (A0 16) (A0 17) h0 C0 w1o0 w1o1 w1o2 w1o3 w1o4 w1o5 w1o6 w1o7 w1a8 w1a9 w1a10 w1a11 w1a12 w1a14 w1a15 w1a16 w1a17 w1h w1c gs ga0 ga1 ga2 ga3 ga5 x1 x2 = some res) : gGO Γ 0 0 0 [(0, .ref (q 5)), (1, .int x1), (2, .int x2)] [] (cw (g_E Γ) q r (gpl F) o0 A0 C0 h0 (gu (gu (gu (gu (gu (gu (gu (gu o1 0 w1o0) 1 w1o1) 2 w1o2) 3 w1o3) 4 w1o4) 5 w1o5) 6 w1o6) 7 w1o7) (gu (gu (gu (gu (gu (gu (gu (gu (gu A1 8 w1a8) 9 w1a9) 10 w1a10) 11 w1a11) 12 w1a12) 14 w1a14) 15 w1a15) 16 w1a16) 17 w1a17) w1c w1h o2 A2 C2 h2 gs (gu (gu (gu (gu (gu gA 0 ga0) 1 ga1) 2 ga2) 3 ga3) 5 ga5) tb0 tA0 bf0 hi0) := by
    unfold pX11_moved at h
    refine g_aload_n K dX11_moved_0 rfl 0 rfl ?_
    refine g_get (v := .ref (q 0)) (T := TX11) (ref := "ChiefGrades") K hin_X11 0 rfl rfl 0 (by decide) u_324 (Or.inl rfl) rfl dX11_moved_1 ?_
    refine g_iload_n K dX11_moved_4 rfl 2 rfl ?_
    obtain ⟨z_1, hz_1, h⟩ := gi_bd h
    refine g_callVq (As := [.int x2]) (bytes := cX10_chiefAt) (maxL := 2) (ret := (some (.object "ChiefGrades$Chief"))) K (ctX10_chiefAt_w0 hF o0 A0 C0 h0 (gu (gu (gu (gu (gu (gu (gu (gu o1 0 w1o0) 1 w1o1) 2 w1o2) 3 w1o3) 4 w1o4) 5 w1o5) 6 w1o6) 7 w1o7) (gu (gu (gu (gu (gu (gu (gu (gu (gu A1 8 w1a8) 9 w1a9) 10 w1a10) 11 w1a11) 12 w1a12) 14 w1a14) 15 w1a15) 16 w1a16) 17 w1a17) w1c w1h o2 A2 C2 h2 gs (gu (gu (gu (gu (gu gA 0 ga0) 1 ga1) 2 ga2) 3 ga3) 5 ga5) tb0 tA0 bf0 hi0 x2 (res := z_1) hz_1) gc_V_RX11_101_X10_chiefAt rfl qv_X10_chiefAt 1 rfl rfl rfl hRm rfl rfl rfl (by decide) (Nat.le_of_ble_eq_true rfl) (by decide) dX11_moved_5 (fun v w hw => ?_)
    obtain ⟨hv9, rfl⟩ := hw; have hv9 := hv9.symm; subst hv9
    rcases gi_mt h with ⟨ez, h⟩ | ⟨b_z1, ez, h⟩
    · rw [ez]
      refine g_astore_nN (L' := [(3, .null), (0, .ref (q 5)), (1, .int x1), (2, .int x2)]) K dX11_moved_8 rfl (hlt _ (by decide)) rfl ?_
      refine g_aload_n K dX11_moved_9 rfl 1 rfl ?_
      refine g_get (v := .ref (q 0)) (T := TX11) (ref := "ChiefGrades") K hin_X11 0 rfl rfl 0 (by decide) u_324 (Or.inl rfl) rfl dX11_moved_10 ?_
      refine g_iload_n K dX11_moved_13 rfl 2 rfl ?_
      obtain ⟨z_2, hz_2, h⟩ := gi_bd h
      refine g_callVi (As := [.int x1]) (bytes := cX10_hasWorker) (maxL := 2) (ret := (some .boolean)) K (ctX10_hasWorker_w0 hF o0 A0 C0 h0 (gu (gu (gu (gu (gu (gu (gu (gu o1 0 w1o0) 1 w1o1) 2 w1o2) 3 w1o3) 4 w1o4) 5 w1o5) 6 w1o6) 7 w1o7) (gu (gu (gu (gu (gu (gu (gu (gu (gu A1 8 w1a8) 9 w1a9) 10 w1a10) 11 w1a11) 12 w1a12) 14 w1a14) 15 w1a15) 16 w1a16) 17 w1a17) w1c w1h o2 A2 C2 h2 gs (gu (gu (gu (gu (gu gA 0 ga0) 1 ga1) 2 ga2) 3 ga3) 5 ga5) tb0 tA0 bf0 hi0 x1 (res := z_2) hz_2) gc_V_RX11_122_X10_hasWorker rfl qv_X10_hasWorker 1 rfl rfl rfl hRm rfl rfl rfl (by decide) (Nat.le_of_ble_eq_true rfl) (by decide) dX11_moved_14 (fun v w hw => ?_)
      obtain ⟨hv9, rfl⟩ := hw; have hv9 := hv9.symm; subst hv9
      obtain ⟨ht9, hf9⟩ := gi_br h; clear h
      refine g_if_eq (tgt := 24) K dX11_moved_17 (by decide) (fun qh => ?_) (fun qh => ?_)
      · have h := ht9 qh; clear ht9 hf9
        refine g_iconst (v := (-1)) K dX11_moved_24 (by decide) ?_
        obtain rfl := Option.some.inj h
        exact hret _ _ _ _ dX11_moved_25 rfl ⟨rfl, rfl⟩
      · have h := hf9 qh; clear ht9 hf9
        refine g_aload_nN K dX11_moved_20 rfl 0 rfl ?_
        refine g_ifnonnullN K dX11_moved_21 ?_
        refine g_iconst (v := (-1)) K dX11_moved_24 (by decide) ?_
        obtain rfl := Option.some.inj h
        exact hret _ _ _ _ dX11_moved_25 rfl ⟨rfl, rfl⟩
    · rw [ez]
      refine g_astore_n (L' := [(3, .ref b_z1), (0, .ref (q 5)), (1, .int x1), (2, .int x2)]) K dX11_moved_8 rfl (hlt _ (by decide)) rfl ?_
      refine g_aload_n K dX11_moved_9 rfl 1 rfl ?_
      refine g_get (v := .ref (q 0)) (T := TX11) (ref := "ChiefGrades") K hin_X11 0 rfl rfl 0 (by decide) u_324 (Or.inl rfl) rfl dX11_moved_10 ?_
      refine g_iload_n K dX11_moved_13 rfl 2 rfl ?_
      obtain ⟨z_3, hz_3, h⟩ := gi_bd h
      refine g_callVi (As := [.int x1]) (bytes := cX10_hasWorker) (maxL := 2) (ret := (some .boolean)) K (ctX10_hasWorker_w0 hF o0 A0 C0 h0 (gu (gu (gu (gu (gu (gu (gu (gu o1 0 w1o0) 1 w1o1) 2 w1o2) 3 w1o3) 4 w1o4) 5 w1o5) 6 w1o6) 7 w1o7) (gu (gu (gu (gu (gu (gu (gu (gu (gu A1 8 w1a8) 9 w1a9) 10 w1a10) 11 w1a11) 12 w1a12) 14 w1a14) 15 w1a15) 16 w1a16) 17 w1a17) w1c w1h o2 A2 C2 h2 gs (gu (gu (gu (gu (gu gA 0 ga0) 1 ga1) 2 ga2) 3 ga3) 5 ga5) tb0 tA0 bf0 hi0 x1 (res := z_3) hz_3) gc_V_RX11_122_X10_hasWorker rfl qv_X10_hasWorker 1 rfl rfl rfl hRm rfl rfl rfl (by decide) (Nat.le_of_ble_eq_true rfl) (by decide) dX11_moved_14 (fun v w hw => ?_)
      obtain ⟨hv9, rfl⟩ := hw; have hv9 := hv9.symm; subst hv9
      obtain ⟨ht9, hf9⟩ := gi_br h; clear h
      refine g_if_eq (tgt := 24) K dX11_moved_17 (by decide) (fun qh => ?_) (fun qh => ?_)
      · have h := ht9 qh; clear ht9 hf9
        refine g_iconst (v := (-1)) K dX11_moved_24 (by decide) ?_
        obtain rfl := Option.some.inj h
        exact hret _ _ _ _ dX11_moved_25 rfl ⟨rfl, rfl⟩
      · have h := hf9 qh; clear ht9 hf9
        refine g_aload_n K dX11_moved_20 rfl 0 rfl ?_
        refine g_ifnonnull (tgt := 26) K dX11_moved_21 (by decide) ?_
        refine g_aload_n K dX11_moved_26 rfl 1 rfl ?_
        refine g_iload_n K dX11_moved_27 rfl 2 rfl ?_
        refine g_aload_n K dX11_moved_28 rfl 0 rfl ?_
        obtain ⟨z_4, hz_4, h⟩ := gi_bd h
        refine g_callVi (As := [.int x1, .ref b_z1]) (bytes := cX11_gradeUnder) (maxL := 3) (ret := (some .int)) K (ctX11_gradeUnder hF o0 A0 C0 h0 (gu (gu (gu (gu (gu (gu (gu (gu o1 0 w1o0) 1 w1o1) 2 w1o2) 3 w1o3) 4 w1o4) 5 w1o5) 6 w1o6) 7 w1o7) (gu (gu (gu (gu (gu (gu (gu (gu (gu A1 8 w1a8) 9 w1a9) 10 w1a10) 11 w1a11) 12 w1a12) 14 w1a14) 15 w1a15) 16 w1a16) 17 w1a17) w1c w1h o2 A2 C2 h2 gs (gu (gu (gu (gu (gu gA 0 ga0) 1 ga1) 2 ga2) 3 ga3) 5 ga5) tb0 tA0 bf0 hi0 x1 b_z1 (res := z_4) hz_4) gc_V_RX11_174_X11_gradeUnder rfl qv_X11_gradeUnder 0 rfl rfl rfl hRm rfl rfl rfl (by decide) (Nat.le_of_ble_eq_true rfl) (by decide) dX11_moved_29 (fun v w hw => ?_)
        obtain ⟨hv9, rfl⟩ := hw; have hv9 := hv9.symm; subst hv9
        refine g_ws (ws' := cw (g_E Γ) q r (gpl F) o0 A0 C0 h0 (gu (gu (gu (gu (gu (gu (gu (gu o1 0 z_4.2.1) 1 z_4.2.2.1) 2 z_4.2.2.2.1) 3 z_4.2.2.2.2.1) 4 z_4.2.2.2.2.2.1) 5 z_4.2.2.2.2.2.2.1) 6 z_4.2.2.2.2.2.2.2.1) 7 z_4.2.2.2.2.2.2.2.2.1) (gu (gu (gu (gu (gu (gu (gu (gu (gu A1 8 z_4.2.2.2.2.2.2.2.2.2.1) 9 z_4.2.2.2.2.2.2.2.2.2.2.1) 10 z_4.2.2.2.2.2.2.2.2.2.2.2.1) 11 z_4.2.2.2.2.2.2.2.2.2.2.2.2.1) 12 z_4.2.2.2.2.2.2.2.2.2.2.2.2.2.1) 14 z_4.2.2.2.2.2.2.2.2.2.2.2.2.2.2.1) 15 z_4.2.2.2.2.2.2.2.2.2.2.2.2.2.2.2.1) 16 z_4.2.2.2.2.2.2.2.2.2.2.2.2.2.2.2.2.1) 17 z_4.2.2.2.2.2.2.2.2.2.2.2.2.2.2.2.2.2.1) z_4.2.2.2.2.2.2.2.2.2.2.2.2.2.2.2.2.2.2.2.1 z_4.2.2.2.2.2.2.2.2.2.2.2.2.2.2.2.2.2.2.1 o2 A2 C2 h2 z_4.2.2.2.2.2.2.2.2.2.2.2.2.2.2.2.2.2.2.2.2.1 (gu (gu (gu (gu (gu gA 0 z_4.2.2.2.2.2.2.2.2.2.2.2.2.2.2.2.2.2.2.2.2.2.1) 1 z_4.2.2.2.2.2.2.2.2.2.2.2.2.2.2.2.2.2.2.2.2.2.2.1) 2 z_4.2.2.2.2.2.2.2.2.2.2.2.2.2.2.2.2.2.2.2.2.2.2.2.1) 3 z_4.2.2.2.2.2.2.2.2.2.2.2.2.2.2.2.2.2.2.2.2.2.2.2.2.1) 5 z_4.2.2.2.2.2.2.2.2.2.2.2.2.2.2.2.2.2.2.2.2.2.2.2.2.2) tb0 tA0 bf0 hi0) rfl ?_
        obtain rfl := Option.some.inj h
        exact hret _ _ _ _ dX11_moved_32 rfl ⟨rfl, rfl⟩

set_option maxRecDepth 100000 in
theorem ctX11_moved {E : gE} {q : Nat → Nat} {r : Nat → Nat → Nat} {F : gF} (hF : gFz E F) (o0 : Nat → Int32) (A0 : Nat → Nat → Int32) (C0 : Nat → Option Nat) (h0 : Nat) (o1 : Nat → Int32) (A1 : Nat → Nat → Int32) (C1 : Nat → Option Nat) (h1 : Nat) (o2 : Nat → Int32) (A2 : Nat → Nat → Int32) (C2 : Nat → Option Nat) (h2 : Nat) (gs0 : Int32) (gA : Nat → Nat → Int32) (tb0 : Int32) (tA0 bf0 : Nat → Int32) (hi0 : Int32) (x1 : Int32) (x2 : Int32) {res : Int32 × Int32 × Int32 × Int32 × Int32 × Int32 × Int32 × Int32 × Int32 × ((Nat → Int32)) × ((Nat → Int32)) × ((Nat → Int32)) × ((Nat → Int32)) × ((Nat → Int32)) × ((Nat → Int32)) × ((Nat → Int32)) × ((Nat → Int32)) × ((Nat → Int32)) × Nat × ((Nat → Option Nat)) × Int32 × ((Nat → Int32)) × ((Nat → Int32)) × ((Nat → Int32)) × ((Nat → Int32)) × ((Nat → Int32))} (h : pX11_moved F (o0 0) (o0 1) (o0 2) (o0 3) (o0 4) (o0 5) (o0 6) (o0 7) (A0 8) (A0 9) (A0 10) (A0 11) (A0 12) (A0 14) (A0 15) (A0 16) (A0 17) h0 C0 (o1 0) (o1 1) (o1 2) (o1 3) (o1 4) (o1 5) (o1 6) (o1 7) (A1 8) (A1 9) (A1 10) (A1 11) (A1 12) (A1 14) (A1 15) (A1 16) (A1 17) h1 C1 gs0 (gA 0) (gA 1) (gA 2) (gA 3) (gA 5) x1 x2 = some res) : gMi yX11_moved (.code yX11_moved cX11_moved 4 (some .int) :: gU) ({ frames := 11, cells := 0, slots := 0, locals := 305 } : Room) 0 0 E [.ref (q 5), .int x1, .int x2] (cw E q r (gpl F) o0 A0 C0 h0 o1 A1 C1 h1 o2 A2 C2 h2 gs0 gA tb0 tA0 bf0 hi0) (fun v w => v = res.1 ∧ w = cw E q r (gpl F) o0 A0 C0 h0 (gu (gu (gu (gu (gu (gu (gu (gu o1 0 res.2.1) 1 res.2.2.1) 2 res.2.2.2.1) 3 res.2.2.2.2.1) 4 res.2.2.2.2.2.1) 5 res.2.2.2.2.2.2.1) 6 res.2.2.2.2.2.2.2.1) 7 res.2.2.2.2.2.2.2.2.1) (gu (gu (gu (gu (gu (gu (gu (gu (gu A1 8 res.2.2.2.2.2.2.2.2.2.1) 9 res.2.2.2.2.2.2.2.2.2.2.1) 10 res.2.2.2.2.2.2.2.2.2.2.2.1) 11 res.2.2.2.2.2.2.2.2.2.2.2.2.1) 12 res.2.2.2.2.2.2.2.2.2.2.2.2.2.1) 14 res.2.2.2.2.2.2.2.2.2.2.2.2.2.2.1) 15 res.2.2.2.2.2.2.2.2.2.2.2.2.2.2.2.1) 16 res.2.2.2.2.2.2.2.2.2.2.2.2.2.2.2.2.1) 17 res.2.2.2.2.2.2.2.2.2.2.2.2.2.2.2.2.2.1) res.2.2.2.2.2.2.2.2.2.2.2.2.2.2.2.2.2.2.2.1 res.2.2.2.2.2.2.2.2.2.2.2.2.2.2.2.2.2.2.1 o2 A2 C2 h2 res.2.2.2.2.2.2.2.2.2.2.2.2.2.2.2.2.2.2.2.2.1 (gu (gu (gu (gu (gu gA 0 res.2.2.2.2.2.2.2.2.2.2.2.2.2.2.2.2.2.2.2.2.2.1) 1 res.2.2.2.2.2.2.2.2.2.2.2.2.2.2.2.2.2.2.2.2.2.2.1) 2 res.2.2.2.2.2.2.2.2.2.2.2.2.2.2.2.2.2.2.2.2.2.2.2.1) 3 res.2.2.2.2.2.2.2.2.2.2.2.2.2.2.2.2.2.2.2.2.2.2.2.2.1) 5 res.2.2.2.2.2.2.2.2.2.2.2.2.2.2.2.2.2.2.2.2.2.2.2.2.2) tb0 tA0 bf0 hi0) := by
  refine g_met_i (by decide +kernel) (Nat.le_of_ble_eq_true rfl) (fun Γ K hn hE hRm _ hret => ?_)
  subst hE
  have hlt : ∀ i, i < 4 → i < g_n Γ := fun i q => by rw [hn]; exact q
  refine g_ws (ws' := cw (g_E Γ) q r (gpl F) o0 A0 C0 h0 (gu (gu (gu (gu (gu (gu (gu (gu o1 0 (o1 0)) 1 (o1 1)) 2 (o1 2)) 3 (o1 3)) 4 (o1 4)) 5 (o1 5)) 6 (o1 6)) 7 (o1 7)) (gu (gu (gu (gu (gu (gu (gu (gu (gu A1 8 (A1 8)) 9 (A1 9)) 10 (A1 10)) 11 (A1 11)) 12 (A1 12)) 14 (A1 14)) 15 (A1 15)) 16 (A1 16)) 17 (A1 17)) C1 h1 o2 A2 C2 h2 gs0 (gu (gu (gu (gu (gu gA 0 (gA 0)) 1 (gA 1)) 2 (gA 2)) 3 (gA 3)) 5 (gA 5)) tb0 tA0 bf0 hi0) rfl ?_
  refine g_sub (L' := [(0, .ref (q 5)), (1, .int x1), (2, .int x2)]) [0, 1, 2] rfl ?_
  exact wX11_moved (C0 := C0) (h0 := h0) (C1 := C1) (h1 := h1) (C2 := C2) (h2 := h2) (gs0 := gs0) (tb0 := tb0) (tA0 := tA0) (bf0 := bf0) (hi0 := hi0) hF K hlt hRm hret (o1 0) (o1 1) (o1 2) (o1 3) (o1 4) (o1 5) (o1 6) (o1 7) (A1 8) (A1 9) (A1 10) (A1 11) (A1 12) (A1 14) (A1 15) (A1 16) (A1 17) h1 C1 gs0 (gA 0) (gA 1) (gA 2) (gA 3) (gA 5) x1 x2 h

set_option maxHeartbeats 4000000 in
set_option maxRecDepth 100000 in
theorem wX11_best_30 {Γ : gT} {q : Nat → Nat} {r : Nat → Nat → Nat} {F : gF} (hF : gFz (g_E Γ) F) {o0 : Nat → Int32} {A0 : Nat → Nat → Int32} {C0 : Nat → Option Nat} {h0 : Nat} {o1 : Nat → Int32} {A1 : Nat → Nat → Int32} {C1 : Nat → Option Nat} {h1 : Nat} {o2 : Nat → Int32} {A2 : Nat → Nat → Int32} {C2 : Nat → Option Nat} {h2 : Nat} {gs0 : Int32} {gA : Nat → Nat → Int32} {tb0 : Int32} {tA0 bf0 : Nat → Int32} {hi0 : Int32} (K : gOK Γ cX11_best gU RX11) (hlt : ∀ i, i < 8 → i < g_n Γ) (hRm : g_R Γ = ({ frames := 11, cells := 0, slots := 0, locals := 305 } : Room)) {res : Int32 × Int32 × Int32 × Int32 × Int32 × Int32 × Int32 × Int32 × Int32 × ((Nat → Int32)) × ((Nat → Int32)) × ((Nat → Int32)) × ((Nat → Int32)) × ((Nat → Int32)) × ((Nat → Int32)) × ((Nat → Int32)) × ((Nat → Int32)) × ((Nat → Int32)) × Nat × ((Nat → Option Nat)) × Int32 × ((Nat → Int32)) × ((Nat → Int32)) × ((Nat → Int32)) × ((Nat → Int32)) × ((Nat → Int32))} (hret : ∀ (pc : Nat) (L : List (Nat × Value)) (v : Int32) (w : va_W), decode cX11_best pc = .ok (.ireturn, 1) → narrow .int (.int v) = .int v → (v = res.1 ∧ w = cw (g_E Γ) q r (gpl F) o0 A0 C0 h0 (gu (gu (gu (gu (gu (gu (gu (gu o1 0 res.2.1) 1 res.2.2.1) 2 res.2.2.2.1) 3 res.2.2.2.2.1) 4 res.2.2.2.2.2.1) 5 res.2.2.2.2.2.2.1) 6 res.2.2.2.2.2.2.2.1) 7 res.2.2.2.2.2.2.2.2.1) (gu (gu (gu (gu (gu (gu (gu (gu (gu A1 8 res.2.2.2.2.2.2.2.2.2.1) 9 res.2.2.2.2.2.2.2.2.2.2.1) 10 res.2.2.2.2.2.2.2.2.2.2.2.1) 11 res.2.2.2.2.2.2.2.2.2.2.2.2.1) 12 res.2.2.2.2.2.2.2.2.2.2.2.2.2.1) 14 res.2.2.2.2.2.2.2.2.2.2.2.2.2.2.1) 15 res.2.2.2.2.2.2.2.2.2.2.2.2.2.2.2.1) 16 res.2.2.2.2.2.2.2.2.2.2.2.2.2.2.2.2.1) 17 res.2.2.2.2.2.2.2.2.2.2.2.2.2.2.2.2.2.1) res.2.2.2.2.2.2.2.2.2.2.2.2.2.2.2.2.2.2.2.1 res.2.2.2.2.2.2.2.2.2.2.2.2.2.2.2.2.2.2.1 o2 A2 C2 h2 res.2.2.2.2.2.2.2.2.2.2.2.2.2.2.2.2.2.2.2.2.1 (gu (gu (gu (gu (gu gA 0 res.2.2.2.2.2.2.2.2.2.2.2.2.2.2.2.2.2.2.2.2.2.1) 1 res.2.2.2.2.2.2.2.2.2.2.2.2.2.2.2.2.2.2.2.2.2.2.1) 2 res.2.2.2.2.2.2.2.2.2.2.2.2.2.2.2.2.2.2.2.2.2.2.2.1) 3 res.2.2.2.2.2.2.2.2.2.2.2.2.2.2.2.2.2.2.2.2.2.2.2.2.1) 5 res.2.2.2.2.2.2.2.2.2.2.2.2.2.2.2.2.2.2.2.2.2.2.2.2.2) tb0 tA0 bf0 hi0) → gGO Γ 0 0 pc L [.int v] w) : ∀ (n : Nat) (w1o0 : Int32) (w1o1 : Int32) (w1o2 : Int32) (w1o3 : Int32) (w1o4 : Int32) (w1o5 : Int32) (w1o6 : Int32) (w1o7 : Int32) (w1a8 : (Nat → Int32)) (w1a9 : (Nat → Int32)) (w1a10 : (Nat → Int32)) (w1a11 : (Nat → Int32)) (w1a12 : (Nat → Int32)) (w1a14 : (Nat → Int32)) (w1a15 : (Nat → Int32)) (w1a16 : (Nat → Int32)) (w1a17 : (Nat → Int32)) (w1h : Nat) (w1c : (Nat → Option Nat)) (gs : Int32) (ga0 : (Nat → Int32)) (ga1 : (Nat → Int32)) (ga2 : (Nat → Int32)) (ga3 : (Nat → Int32)) (ga5 : (Nat → Int32)) (x1 : Int32) (x2 : Int32) (x3 : Int32) (x4 : Int32) (x5 : Int32), pX11_best_30 F (o0 0) (o0 1) (o0 2) (o0 3) (o0 4) (o0 5) (o0 6) (o0 7) (A0 8) (A0 9) (A0 10) (A0 11) (A0 12) (A0 14) (A0 15) (A0 16) (A0 17) h0 C0 n w1o0 w1o1 w1o2 w1o3 w1o4 w1o5 w1o6 w1o7 w1a8 w1a9 w1a10 w1a11 w1a12 w1a14 w1a15 w1a16 w1a17 w1h w1c gs ga0 ga1 ga2 ga3 ga5 x1 x2 x3 x4 x5 = some res → gGO Γ 0 0 30 [(0, .ref (q 5)), (1, .int x1), (2, .int x2), (3, .int x3), (4, .int x4), (5, .int x5)] [] (cw (g_E Γ) q r (gpl F) o0 A0 C0 h0 (gu (gu (gu (gu (gu (gu (gu (gu o1 0 w1o0) 1 w1o1) 2 w1o2) 3 w1o3) 4 w1o4) 5 w1o5) 6 w1o6) 7 w1o7) (gu (gu (gu (gu (gu (gu (gu (gu (gu A1 8 w1a8) 9 w1a9) 10 w1a10) 11 w1a11) 12 w1a12) 14 w1a14) 15 w1a15) 16 w1a16) 17 w1a17) w1c w1h o2 A2 C2 h2 gs (gu (gu (gu (gu (gu gA 0 ga0) 1 ga1) 2 ga2) 3 ga3) 5 ga5) tb0 tA0 bf0 hi0) := by
  intro n
  induction n with
  | zero => intro _ _ _ _ _ _ _ _ _ _ _ _ _ _ _ _ _ _ _ _ _ _ _ _ _ _ _ _ _ _ h; cases h
  | succ n ih =>
    intro w1o0 w1o1 w1o2 w1o3 w1o4 w1o5 w1o6 w1o7 w1a8 w1a9 w1a10 w1a11 w1a12 w1a14 w1a15 w1a16 w1a17 w1h w1c gs ga0 ga1 ga2 ga3 ga5 x1 x2 x3 x4 x5 h
    simp only [pX11_best_30] at h
    refine g_iload K dX11_best_30 5 rfl ?_
    refine g_iconst (v := 4) K dX11_best_32 (by decide) ?_
    obtain ⟨ht9, hf9⟩ := gi_br h; clear h
    refine g_icmp_ge (tgt := 85) K dX11_best_33 (by decide) (fun qh => ?_) (fun qh => ?_)
    · have h := ht9 qh; clear ht9 hf9
      refine g_iload_n K dX11_best_85 rfl 2 rfl ?_
      obtain ⟨ht9, hf9⟩ := gi_br h; clear h
      refine g_if_ne (tgt := 93) K dX11_best_86 (by decide) (fun qh => ?_) (fun qh => ?_)
      · have h := hf9 qh; clear ht9 hf9
        refine g_iload K dX11_best_93 4 rfl ?_
        obtain rfl := Option.some.inj h
        exact hret _ _ _ _ dX11_best_95 rfl ⟨rfl, rfl⟩
      · have h := ht9 qh; clear ht9 hf9
        refine g_iload_n K dX11_best_89 rfl 3 rfl ?_
        refine g_goto (tgt := 95) K dX11_best_90 (by decide) ?_
        obtain rfl := Option.some.inj h
        exact hret _ _ _ _ dX11_best_95 rfl ⟨rfl, rfl⟩
    · have h := hf9 qh; clear ht9 hf9
      refine g_aload_n K dX11_best_36 rfl 0 rfl ?_
      refine g_get (v := .ref (q 0)) (T := TX11) (ref := "ChiefGrades") K hin_X11 0 rfl rfl 0 (by decide) u_324 (Or.inl rfl) rfl dX11_best_37 ?_
      refine g_iload K dX11_best_40 5 rfl ?_
      obtain ⟨z_1, hz_1, h⟩ := gi_bd h
      refine g_callVq (As := [.int x5]) (bytes := cX10_chiefAt) (maxL := 2) (ret := (some (.object "ChiefGrades$Chief"))) K (ctX10_chiefAt_w0 hF o0 A0 C0 h0 (gu (gu (gu (gu (gu (gu (gu (gu o1 0 w1o0) 1 w1o1) 2 w1o2) 3 w1o3) 4 w1o4) 5 w1o5) 6 w1o6) 7 w1o7) (gu (gu (gu (gu (gu (gu (gu (gu (gu A1 8 w1a8) 9 w1a9) 10 w1a10) 11 w1a11) 12 w1a12) 14 w1a14) 15 w1a15) 16 w1a16) 17 w1a17) w1c w1h o2 A2 C2 h2 gs (gu (gu (gu (gu (gu gA 0 ga0) 1 ga1) 2 ga2) 3 ga3) 5 ga5) tb0 tA0 bf0 hi0 x5 (res := z_1) hz_1) gc_V_RX11_101_X10_chiefAt rfl qv_X10_chiefAt 1 rfl rfl rfl hRm rfl rfl rfl (by decide) (Nat.le_of_ble_eq_true rfl) (by decide) dX11_best_42 (fun v w hw => ?_)
      obtain ⟨hv9, rfl⟩ := hw; have hv9 := hv9.symm; subst hv9
      rcases gi_mt h with ⟨ez, h⟩ | ⟨b_z1, ez, h⟩
      · rw [ez]
        refine g_astoreN (L' := [(6, .null), (0, .ref (q 5)), (1, .int x1), (2, .int x2), (3, .int x3), (4, .int x4), (5, .int x5)]) K dX11_best_45 (hlt _ (by decide)) rfl ?_
        refine g_aloadN K dX11_best_47 0 rfl ?_
        refine g_ifnonnullN K dX11_best_49 ?_
        refine g_iconst (v := (-1)) K dX11_best_52 (by decide) ?_
        refine g_goto (tgt := 63) K dX11_best_53 (by decide) ?_
        refine g_istore (L' := [(7, .int (-1)), (6, .null), (0, .ref (q 5)), (1, .int x1), (2, .int x2), (3, .int x3), (4, .int x4), (5, .int x5)]) K dX11_best_63 (hlt _ (by decide)) rfl ?_
        refine g_iload K dX11_best_65 0 rfl ?_
        refine g_iload K dX11_best_67 6 rfl ?_
        obtain ⟨ht9, hf9⟩ := gi_br h; clear h
        refine g_icmp_le (tgt := 79) K dX11_best_69 (by decide) (fun qh => ?_) (fun qh => ?_)
        · have h := ht9 qh; clear ht9 hf9
          refine g_iinc (v := (x5 + 1)) (L' := [(5, .int (x5 + 1)), (7, .int (-1)), (6, .null), (0, .ref (q 5)), (1, .int x1), (2, .int x2), (3, .int x3), (4, .int x4)]) K dX11_best_79 7 rfl rfl (hlt _ (by decide)) rfl ?_
          refine g_goto (tgt := 30) K dX11_best_82 (by decide) ?_
          refine g_sub (L' := [(0, .ref (q 5)), (1, .int x1), (2, .int x2), (3, .int x3), (4, .int x4), (5, .int (x5 + 1))]) [3, 4, 5, 6, 7, 0] rfl ?_
          exact ih w1o0 w1o1 w1o2 w1o3 w1o4 w1o5 w1o6 w1o7 w1a8 w1a9 w1a10 w1a11 w1a12 w1a14 w1a15 w1a16 w1a17 w1h w1c gs ga0 ga1 ga2 ga3 ga5 x1 x2 x3 x4 (x5 + 1) h
        · have h := hf9 qh; clear ht9 hf9
          refine g_iload K dX11_best_72 7 rfl ?_
          refine g_istore_n (L' := [(3, .int x5), (7, .int (-1)), (6, .null), (0, .ref (q 5)), (1, .int x1), (2, .int x2), (4, .int x4), (5, .int x5)]) K dX11_best_74 rfl (hlt _ (by decide)) rfl ?_
          refine g_iload K dX11_best_75 1 rfl ?_
          refine g_istore (L' := [(4, .int (-1)), (3, .int x5), (7, .int (-1)), (6, .null), (0, .ref (q 5)), (1, .int x1), (2, .int x2), (5, .int x5)]) K dX11_best_77 (hlt _ (by decide)) rfl ?_
          refine g_iinc (v := (x5 + 1)) (L' := [(5, .int (x5 + 1)), (4, .int (-1)), (3, .int x5), (7, .int (-1)), (6, .null), (0, .ref (q 5)), (1, .int x1), (2, .int x2)]) K dX11_best_79 7 rfl rfl (hlt _ (by decide)) rfl ?_
          refine g_goto (tgt := 30) K dX11_best_82 (by decide) ?_
          refine g_sub (L' := [(0, .ref (q 5)), (1, .int x1), (2, .int x2), (3, .int x5), (4, .int (-1)), (5, .int (x5 + 1))]) [5, 6, 7, 2, 1, 0] rfl ?_
          exact ih w1o0 w1o1 w1o2 w1o3 w1o4 w1o5 w1o6 w1o7 w1a8 w1a9 w1a10 w1a11 w1a12 w1a14 w1a15 w1a16 w1a17 w1h w1c gs ga0 ga1 ga2 ga3 ga5 x1 x2 x5 (-1) (x5 + 1) h
      · rw [ez]
        refine g_astore (L' := [(6, .ref b_z1), (0, .ref (q 5)), (1, .int x1), (2, .int x2), (3, .int x3), (4, .int x4), (5, .int x5)]) K dX11_best_45 (hlt _ (by decide)) rfl ?_
        refine g_aload K dX11_best_47 0 rfl ?_
        refine g_ifnonnull (tgt := 56) K dX11_best_49 (by decide) ?_
        refine g_aload_n K dX11_best_56 rfl 1 rfl ?_
        refine g_iload_n K dX11_best_57 rfl 2 rfl ?_
        refine g_aload K dX11_best_58 0 rfl ?_
        obtain ⟨z_2, hz_2, h⟩ := gi_bd h
        refine g_callVi (As := [.int x1, .ref b_z1]) (bytes := cX11_gradeUnder) (maxL := 3) (ret := (some .int)) K (ctX11_gradeUnder hF o0 A0 C0 h0 (gu (gu (gu (gu (gu (gu (gu (gu o1 0 w1o0) 1 w1o1) 2 w1o2) 3 w1o3) 4 w1o4) 5 w1o5) 6 w1o6) 7 w1o7) (gu (gu (gu (gu (gu (gu (gu (gu (gu A1 8 w1a8) 9 w1a9) 10 w1a10) 11 w1a11) 12 w1a12) 14 w1a14) 15 w1a15) 16 w1a16) 17 w1a17) w1c w1h o2 A2 C2 h2 gs (gu (gu (gu (gu (gu gA 0 ga0) 1 ga1) 2 ga2) 3 ga3) 5 ga5) tb0 tA0 bf0 hi0 x1 b_z1 (res := z_2) hz_2) gc_V_RX11_174_X11_gradeUnder rfl qv_X11_gradeUnder 0 rfl rfl rfl hRm rfl rfl rfl (by decide) (Nat.le_of_ble_eq_true rfl) (by decide) dX11_best_60 (fun v w hw => ?_)
        obtain ⟨hv9, rfl⟩ := hw; have hv9 := hv9.symm; subst hv9
        refine g_ws (ws' := cw (g_E Γ) q r (gpl F) o0 A0 C0 h0 (gu (gu (gu (gu (gu (gu (gu (gu o1 0 z_2.2.1) 1 z_2.2.2.1) 2 z_2.2.2.2.1) 3 z_2.2.2.2.2.1) 4 z_2.2.2.2.2.2.1) 5 z_2.2.2.2.2.2.2.1) 6 z_2.2.2.2.2.2.2.2.1) 7 z_2.2.2.2.2.2.2.2.2.1) (gu (gu (gu (gu (gu (gu (gu (gu (gu A1 8 z_2.2.2.2.2.2.2.2.2.2.1) 9 z_2.2.2.2.2.2.2.2.2.2.2.1) 10 z_2.2.2.2.2.2.2.2.2.2.2.2.1) 11 z_2.2.2.2.2.2.2.2.2.2.2.2.2.1) 12 z_2.2.2.2.2.2.2.2.2.2.2.2.2.2.1) 14 z_2.2.2.2.2.2.2.2.2.2.2.2.2.2.2.1) 15 z_2.2.2.2.2.2.2.2.2.2.2.2.2.2.2.2.1) 16 z_2.2.2.2.2.2.2.2.2.2.2.2.2.2.2.2.2.1) 17 z_2.2.2.2.2.2.2.2.2.2.2.2.2.2.2.2.2.2.1) z_2.2.2.2.2.2.2.2.2.2.2.2.2.2.2.2.2.2.2.2.1 z_2.2.2.2.2.2.2.2.2.2.2.2.2.2.2.2.2.2.2.1 o2 A2 C2 h2 z_2.2.2.2.2.2.2.2.2.2.2.2.2.2.2.2.2.2.2.2.2.1 (gu (gu (gu (gu (gu gA 0 z_2.2.2.2.2.2.2.2.2.2.2.2.2.2.2.2.2.2.2.2.2.2.1) 1 z_2.2.2.2.2.2.2.2.2.2.2.2.2.2.2.2.2.2.2.2.2.2.2.1) 2 z_2.2.2.2.2.2.2.2.2.2.2.2.2.2.2.2.2.2.2.2.2.2.2.2.1) 3 z_2.2.2.2.2.2.2.2.2.2.2.2.2.2.2.2.2.2.2.2.2.2.2.2.2.1) 5 z_2.2.2.2.2.2.2.2.2.2.2.2.2.2.2.2.2.2.2.2.2.2.2.2.2.2) tb0 tA0 bf0 hi0) rfl ?_
        obtain ⟨v_3, ev_3, h⟩ := gi_nm h
        refine g_topi ev_3 ?_
        refine g_istore (L' := [(7, .int v_3), (6, .ref b_z1), (0, .ref (q 5)), (1, .int x1), (2, .int x2), (3, .int x3), (4, .int x4), (5, .int x5)]) K dX11_best_63 (hlt _ (by decide)) rfl ?_
        refine g_iload K dX11_best_65 0 rfl ?_
        refine g_iload K dX11_best_67 6 rfl ?_
        obtain ⟨ht9, hf9⟩ := gi_br h; clear h
        refine g_icmp_le (tgt := 79) K dX11_best_69 (by decide) (fun qh => ?_) (fun qh => ?_)
        · have h := ht9 qh; clear ht9 hf9
          refine g_iinc (v := (x5 + 1)) (L' := [(5, .int (x5 + 1)), (7, .int v_3), (6, .ref b_z1), (0, .ref (q 5)), (1, .int x1), (2, .int x2), (3, .int x3), (4, .int x4)]) K dX11_best_79 7 rfl rfl (hlt _ (by decide)) rfl ?_
          refine g_goto (tgt := 30) K dX11_best_82 (by decide) ?_
          refine g_sub (L' := [(0, .ref (q 5)), (1, .int x1), (2, .int x2), (3, .int x3), (4, .int x4), (5, .int (x5 + 1))]) [3, 4, 5, 6, 7, 0] rfl ?_
          exact ih z_2.2.1 z_2.2.2.1 z_2.2.2.2.1 z_2.2.2.2.2.1 z_2.2.2.2.2.2.1 z_2.2.2.2.2.2.2.1 z_2.2.2.2.2.2.2.2.1 z_2.2.2.2.2.2.2.2.2.1 z_2.2.2.2.2.2.2.2.2.2.1 z_2.2.2.2.2.2.2.2.2.2.2.1 z_2.2.2.2.2.2.2.2.2.2.2.2.1 z_2.2.2.2.2.2.2.2.2.2.2.2.2.1 z_2.2.2.2.2.2.2.2.2.2.2.2.2.2.1 z_2.2.2.2.2.2.2.2.2.2.2.2.2.2.2.1 z_2.2.2.2.2.2.2.2.2.2.2.2.2.2.2.2.1 z_2.2.2.2.2.2.2.2.2.2.2.2.2.2.2.2.2.1 z_2.2.2.2.2.2.2.2.2.2.2.2.2.2.2.2.2.2.1 z_2.2.2.2.2.2.2.2.2.2.2.2.2.2.2.2.2.2.2.1 z_2.2.2.2.2.2.2.2.2.2.2.2.2.2.2.2.2.2.2.2.1 z_2.2.2.2.2.2.2.2.2.2.2.2.2.2.2.2.2.2.2.2.2.1 z_2.2.2.2.2.2.2.2.2.2.2.2.2.2.2.2.2.2.2.2.2.2.1 z_2.2.2.2.2.2.2.2.2.2.2.2.2.2.2.2.2.2.2.2.2.2.2.1 z_2.2.2.2.2.2.2.2.2.2.2.2.2.2.2.2.2.2.2.2.2.2.2.2.1 z_2.2.2.2.2.2.2.2.2.2.2.2.2.2.2.2.2.2.2.2.2.2.2.2.2.1 z_2.2.2.2.2.2.2.2.2.2.2.2.2.2.2.2.2.2.2.2.2.2.2.2.2.2 x1 x2 x3 x4 (x5 + 1) h
        · have h := hf9 qh; clear ht9 hf9
          refine g_iload K dX11_best_72 7 rfl ?_
          refine g_istore_n (L' := [(3, .int x5), (7, .int v_3), (6, .ref b_z1), (0, .ref (q 5)), (1, .int x1), (2, .int x2), (4, .int x4), (5, .int x5)]) K dX11_best_74 rfl (hlt _ (by decide)) rfl ?_
          refine g_iload K dX11_best_75 1 rfl ?_
          refine g_istore (L' := [(4, .int v_3), (3, .int x5), (7, .int v_3), (6, .ref b_z1), (0, .ref (q 5)), (1, .int x1), (2, .int x2), (5, .int x5)]) K dX11_best_77 (hlt _ (by decide)) rfl ?_
          refine g_iinc (v := (x5 + 1)) (L' := [(5, .int (x5 + 1)), (4, .int v_3), (3, .int x5), (7, .int v_3), (6, .ref b_z1), (0, .ref (q 5)), (1, .int x1), (2, .int x2)]) K dX11_best_79 7 rfl rfl (hlt _ (by decide)) rfl ?_
          refine g_goto (tgt := 30) K dX11_best_82 (by decide) ?_
          refine g_sub (L' := [(0, .ref (q 5)), (1, .int x1), (2, .int x2), (3, .int x5), (4, .int v_3), (5, .int (x5 + 1))]) [5, 6, 7, 2, 1, 0] rfl ?_
          exact ih z_2.2.1 z_2.2.2.1 z_2.2.2.2.1 z_2.2.2.2.2.1 z_2.2.2.2.2.2.1 z_2.2.2.2.2.2.2.1 z_2.2.2.2.2.2.2.2.1 z_2.2.2.2.2.2.2.2.2.1 z_2.2.2.2.2.2.2.2.2.2.1 z_2.2.2.2.2.2.2.2.2.2.2.1 z_2.2.2.2.2.2.2.2.2.2.2.2.1 z_2.2.2.2.2.2.2.2.2.2.2.2.2.1 z_2.2.2.2.2.2.2.2.2.2.2.2.2.2.1 z_2.2.2.2.2.2.2.2.2.2.2.2.2.2.2.1 z_2.2.2.2.2.2.2.2.2.2.2.2.2.2.2.2.1 z_2.2.2.2.2.2.2.2.2.2.2.2.2.2.2.2.2.1 z_2.2.2.2.2.2.2.2.2.2.2.2.2.2.2.2.2.2.1 z_2.2.2.2.2.2.2.2.2.2.2.2.2.2.2.2.2.2.2.1 z_2.2.2.2.2.2.2.2.2.2.2.2.2.2.2.2.2.2.2.2.1 z_2.2.2.2.2.2.2.2.2.2.2.2.2.2.2.2.2.2.2.2.2.1 z_2.2.2.2.2.2.2.2.2.2.2.2.2.2.2.2.2.2.2.2.2.2.1 z_2.2.2.2.2.2.2.2.2.2.2.2.2.2.2.2.2.2.2.2.2.2.2.1 z_2.2.2.2.2.2.2.2.2.2.2.2.2.2.2.2.2.2.2.2.2.2.2.2.1 z_2.2.2.2.2.2.2.2.2.2.2.2.2.2.2.2.2.2.2.2.2.2.2.2.2.1 z_2.2.2.2.2.2.2.2.2.2.2.2.2.2.2.2.2.2.2.2.2.2.2.2.2.2 x1 x2 x5 v_3 (x5 + 1) h

set_option maxHeartbeats 4000000 in
set_option maxRecDepth 100000 in
theorem wX11_best {Γ : gT} {q : Nat → Nat} {r : Nat → Nat → Nat} {F : gF} (hF : gFz (g_E Γ) F) {o0 : Nat → Int32} {A0 : Nat → Nat → Int32} {C0 : Nat → Option Nat} {h0 : Nat} {o1 : Nat → Int32} {A1 : Nat → Nat → Int32} {C1 : Nat → Option Nat} {h1 : Nat} {o2 : Nat → Int32} {A2 : Nat → Nat → Int32} {C2 : Nat → Option Nat} {h2 : Nat} {gs0 : Int32} {gA : Nat → Nat → Int32} {tb0 : Int32} {tA0 bf0 : Nat → Int32} {hi0 : Int32} (K : gOK Γ cX11_best gU RX11) (hlt : ∀ i, i < 8 → i < g_n Γ) (hRm : g_R Γ = ({ frames := 11, cells := 0, slots := 0, locals := 305 } : Room)) {res : Int32 × Int32 × Int32 × Int32 × Int32 × Int32 × Int32 × Int32 × Int32 × ((Nat → Int32)) × ((Nat → Int32)) × ((Nat → Int32)) × ((Nat → Int32)) × ((Nat → Int32)) × ((Nat → Int32)) × ((Nat → Int32)) × ((Nat → Int32)) × ((Nat → Int32)) × Nat × ((Nat → Option Nat)) × Int32 × ((Nat → Int32)) × ((Nat → Int32)) × ((Nat → Int32)) × ((Nat → Int32)) × ((Nat → Int32))} (hret : ∀ (pc : Nat) (L : List (Nat × Value)) (v : Int32) (w : va_W), decode cX11_best pc = .ok (.ireturn, 1) → narrow .int (.int v) = .int v → (v = res.1 ∧ w = cw (g_E Γ) q r (gpl F) o0 A0 C0 h0 (gu (gu (gu (gu (gu (gu (gu (gu o1 0 res.2.1) 1 res.2.2.1) 2 res.2.2.2.1) 3 res.2.2.2.2.1) 4 res.2.2.2.2.2.1) 5 res.2.2.2.2.2.2.1) 6 res.2.2.2.2.2.2.2.1) 7 res.2.2.2.2.2.2.2.2.1) (gu (gu (gu (gu (gu (gu (gu (gu (gu A1 8 res.2.2.2.2.2.2.2.2.2.1) 9 res.2.2.2.2.2.2.2.2.2.2.1) 10 res.2.2.2.2.2.2.2.2.2.2.2.1) 11 res.2.2.2.2.2.2.2.2.2.2.2.2.1) 12 res.2.2.2.2.2.2.2.2.2.2.2.2.2.1) 14 res.2.2.2.2.2.2.2.2.2.2.2.2.2.2.1) 15 res.2.2.2.2.2.2.2.2.2.2.2.2.2.2.2.1) 16 res.2.2.2.2.2.2.2.2.2.2.2.2.2.2.2.2.1) 17 res.2.2.2.2.2.2.2.2.2.2.2.2.2.2.2.2.2.1) res.2.2.2.2.2.2.2.2.2.2.2.2.2.2.2.2.2.2.2.1 res.2.2.2.2.2.2.2.2.2.2.2.2.2.2.2.2.2.2.1 o2 A2 C2 h2 res.2.2.2.2.2.2.2.2.2.2.2.2.2.2.2.2.2.2.2.2.1 (gu (gu (gu (gu (gu gA 0 res.2.2.2.2.2.2.2.2.2.2.2.2.2.2.2.2.2.2.2.2.2.1) 1 res.2.2.2.2.2.2.2.2.2.2.2.2.2.2.2.2.2.2.2.2.2.2.1) 2 res.2.2.2.2.2.2.2.2.2.2.2.2.2.2.2.2.2.2.2.2.2.2.2.1) 3 res.2.2.2.2.2.2.2.2.2.2.2.2.2.2.2.2.2.2.2.2.2.2.2.2.1) 5 res.2.2.2.2.2.2.2.2.2.2.2.2.2.2.2.2.2.2.2.2.2.2.2.2.2) tb0 tA0 bf0 hi0) → gGO Γ 0 0 pc L [.int v] w) (w1o0 : Int32) (w1o1 : Int32) (w1o2 : Int32) (w1o3 : Int32) (w1o4 : Int32) (w1o5 : Int32) (w1o6 : Int32) (w1o7 : Int32) (w1a8 : (Nat → Int32)) (w1a9 : (Nat → Int32)) (w1a10 : (Nat → Int32)) (w1a11 : (Nat → Int32)) (w1a12 : (Nat → Int32)) (w1a14 : (Nat → Int32)) (w1a15 : (Nat → Int32)) (w1a16 : (Nat → Int32)) (w1a17 : (Nat → Int32)) (w1h : Nat) (w1c : (Nat → Option Nat)) (gs : Int32) (ga0 : (Nat → Int32)) (ga1 : (Nat → Int32)) (ga2 : (Nat → Int32)) (ga3 : (Nat → Int32)) (ga5 : (Nat → Int32)) (x1 : Int32) (x2 : Int32) (h : pX11_best F (o0 0) (o0 1) (o0 2) (o0 3) (o0 4) (o0 5) (o0 6) (o0 7) (A0 8) (A0 9) (A0 10) (A0 11) (A0 12) (A0 14) (A0 15) (A0 16) (A0 17) h0 C0 w1o0 w1o1 w1o2 w1o3 w1o4 w1o5 w1o6 w1o7 w1a8 w1a9 w1a10 w1a11 w1a12 w1a14 w1a15 w1a16 w1a17 w1h w1c gs ga0 ga1 ga2 ga3 ga5 x1 x2 = some res) : gGO Γ 0 0 0 [(0, .ref (q 5)), (1, .int x1), (2, .int x2)] [] (cw (g_E Γ) q r (gpl F) o0 A0 C0 h0 (gu (gu (gu (gu (gu (gu (gu (gu o1 0 w1o0) 1 w1o1) 2 w1o2) 3 w1o3) 4 w1o4) 5 w1o5) 6 w1o6) 7 w1o7) (gu (gu (gu (gu (gu (gu (gu (gu (gu A1 8 w1a8) 9 w1a9) 10 w1a10) 11 w1a11) 12 w1a12) 14 w1a14) 15 w1a15) 16 w1a16) 17 w1a17) w1c w1h o2 A2 C2 h2 gs (gu (gu (gu (gu (gu gA 0 ga0) 1 ga1) 2 ga2) 3 ga3) 5 ga5) tb0 tA0 bf0 hi0) := by
    unfold pX11_best at h
    refine g_aload_n K dX11_best_0 rfl 0 rfl ?_
    refine g_get (v := .ref (q 0)) (T := TX11) (ref := "ChiefGrades") K hin_X11 0 rfl rfl 0 (by decide) u_324 (Or.inl rfl) rfl dX11_best_1 ?_
    refine g_iload_n K dX11_best_4 rfl 1 rfl ?_
    obtain ⟨z_1, hz_1, h⟩ := gi_bd h
    refine g_callVi (As := [.int x1]) (bytes := cX10_hasWorker) (maxL := 2) (ret := (some .boolean)) K (ctX10_hasWorker_w0 hF o0 A0 C0 h0 (gu (gu (gu (gu (gu (gu (gu (gu o1 0 w1o0) 1 w1o1) 2 w1o2) 3 w1o3) 4 w1o4) 5 w1o5) 6 w1o6) 7 w1o7) (gu (gu (gu (gu (gu (gu (gu (gu (gu A1 8 w1a8) 9 w1a9) 10 w1a10) 11 w1a11) 12 w1a12) 14 w1a14) 15 w1a15) 16 w1a16) 17 w1a17) w1c w1h o2 A2 C2 h2 gs (gu (gu (gu (gu (gu gA 0 ga0) 1 ga1) 2 ga2) 3 ga3) 5 ga5) tb0 tA0 bf0 hi0 x1 (res := z_1) hz_1) gc_V_RX11_122_X10_hasWorker rfl qv_X10_hasWorker 1 rfl rfl rfl hRm rfl rfl rfl (by decide) (Nat.le_of_ble_eq_true rfl) (by decide) dX11_best_5 (fun v w hw => ?_)
    obtain ⟨hv9, rfl⟩ := hw; have hv9 := hv9.symm; subst hv9
    obtain ⟨ht9, hf9⟩ := gi_br h; clear h
    refine g_if_eq (tgt := 20) K dX11_best_8 (by decide) (fun qh => ?_) (fun qh => ?_)
    · have h := ht9 qh; clear ht9 hf9
      refine g_iconst (v := (-1)) K dX11_best_20 (by decide) ?_
      obtain rfl := Option.some.inj h
      exact hret _ _ _ _ dX11_best_21 rfl ⟨rfl, rfl⟩
    · have h := hf9 qh; clear ht9 hf9
      refine g_iload_n K dX11_best_11 rfl 2 rfl ?_
      obtain ⟨ht9, hf9⟩ := gi_br h; clear h
      refine g_if_lt (tgt := 20) K dX11_best_12 (by decide) (fun qh => ?_) (fun qh => ?_)
      · have h := ht9 qh; clear ht9 hf9
        refine g_iconst (v := (-1)) K dX11_best_20 (by decide) ?_
        obtain rfl := Option.some.inj h
        exact hret _ _ _ _ dX11_best_21 rfl ⟨rfl, rfl⟩
      · have h := hf9 qh; clear ht9 hf9
        refine g_iload_n K dX11_best_15 rfl 2 rfl ?_
        refine g_iconst (v := 1) K dX11_best_16 (by decide) ?_
        obtain ⟨ht9, hf9⟩ := gi_br h; clear h
        refine g_icmp_le (tgt := 22) K dX11_best_17 (by decide) (fun qh => ?_) (fun qh => ?_)
        · have h := ht9 qh; clear ht9 hf9
          refine g_iconst (v := (-1)) K dX11_best_22 (by decide) ?_
          refine g_istore_n (L' := [(3, .int (-1)), (0, .ref (q 5)), (1, .int x1), (2, .int x2)]) K dX11_best_23 rfl (hlt _ (by decide)) rfl ?_
          refine g_iconst (v := (-1)) K dX11_best_24 (by decide) ?_
          refine g_istore (L' := [(4, .int (-1)), (3, .int (-1)), (0, .ref (q 5)), (1, .int x1), (2, .int x2)]) K dX11_best_25 (hlt _ (by decide)) rfl ?_
          refine g_iconst (v := 0) K dX11_best_27 (by decide) ?_
          refine g_istore (L' := [(5, .int 0), (4, .int (-1)), (3, .int (-1)), (0, .ref (q 5)), (1, .int x1), (2, .int x2)]) K dX11_best_28 (hlt _ (by decide)) rfl ?_
          refine g_sub (L' := [(0, .ref (q 5)), (1, .int x1), (2, .int x2), (3, .int (-1)), (4, .int (-1)), (5, .int 0)]) [3, 4, 5, 2, 1, 0] rfl ?_
          exact wX11_best_30 (C0 := C0) (h0 := h0) (C1 := C1) (h1 := h1) (C2 := C2) (h2 := h2) (gs0 := gs0) (tb0 := tb0) (tA0 := tA0) (bf0 := bf0) (hi0 := hi0) hF K hlt hRm hret 1000 w1o0 w1o1 w1o2 w1o3 w1o4 w1o5 w1o6 w1o7 w1a8 w1a9 w1a10 w1a11 w1a12 w1a14 w1a15 w1a16 w1a17 w1h w1c gs ga0 ga1 ga2 ga3 ga5 x1 x2 (-1) (-1) 0 h
        · have h := hf9 qh; clear ht9 hf9
          refine g_iconst (v := (-1)) K dX11_best_20 (by decide) ?_
          obtain rfl := Option.some.inj h
          exact hret _ _ _ _ dX11_best_21 rfl ⟨rfl, rfl⟩

set_option maxRecDepth 100000 in
theorem ctX11_best {E : gE} {q : Nat → Nat} {r : Nat → Nat → Nat} {F : gF} (hF : gFz E F) (o0 : Nat → Int32) (A0 : Nat → Nat → Int32) (C0 : Nat → Option Nat) (h0 : Nat) (o1 : Nat → Int32) (A1 : Nat → Nat → Int32) (C1 : Nat → Option Nat) (h1 : Nat) (o2 : Nat → Int32) (A2 : Nat → Nat → Int32) (C2 : Nat → Option Nat) (h2 : Nat) (gs0 : Int32) (gA : Nat → Nat → Int32) (tb0 : Int32) (tA0 bf0 : Nat → Int32) (hi0 : Int32) (x1 : Int32) (x2 : Int32) {res : Int32 × Int32 × Int32 × Int32 × Int32 × Int32 × Int32 × Int32 × Int32 × ((Nat → Int32)) × ((Nat → Int32)) × ((Nat → Int32)) × ((Nat → Int32)) × ((Nat → Int32)) × ((Nat → Int32)) × ((Nat → Int32)) × ((Nat → Int32)) × ((Nat → Int32)) × Nat × ((Nat → Option Nat)) × Int32 × ((Nat → Int32)) × ((Nat → Int32)) × ((Nat → Int32)) × ((Nat → Int32)) × ((Nat → Int32))} (h : pX11_best F (o0 0) (o0 1) (o0 2) (o0 3) (o0 4) (o0 5) (o0 6) (o0 7) (A0 8) (A0 9) (A0 10) (A0 11) (A0 12) (A0 14) (A0 15) (A0 16) (A0 17) h0 C0 (o1 0) (o1 1) (o1 2) (o1 3) (o1 4) (o1 5) (o1 6) (o1 7) (A1 8) (A1 9) (A1 10) (A1 11) (A1 12) (A1 14) (A1 15) (A1 16) (A1 17) h1 C1 gs0 (gA 0) (gA 1) (gA 2) (gA 3) (gA 5) x1 x2 = some res) : gMi yX11_best (.code yX11_best cX11_best 8 (some .int) :: gU) ({ frames := 11, cells := 0, slots := 0, locals := 305 } : Room) 0 0 E [.ref (q 5), .int x1, .int x2] (cw E q r (gpl F) o0 A0 C0 h0 o1 A1 C1 h1 o2 A2 C2 h2 gs0 gA tb0 tA0 bf0 hi0) (fun v w => v = res.1 ∧ w = cw E q r (gpl F) o0 A0 C0 h0 (gu (gu (gu (gu (gu (gu (gu (gu o1 0 res.2.1) 1 res.2.2.1) 2 res.2.2.2.1) 3 res.2.2.2.2.1) 4 res.2.2.2.2.2.1) 5 res.2.2.2.2.2.2.1) 6 res.2.2.2.2.2.2.2.1) 7 res.2.2.2.2.2.2.2.2.1) (gu (gu (gu (gu (gu (gu (gu (gu (gu A1 8 res.2.2.2.2.2.2.2.2.2.1) 9 res.2.2.2.2.2.2.2.2.2.2.1) 10 res.2.2.2.2.2.2.2.2.2.2.2.1) 11 res.2.2.2.2.2.2.2.2.2.2.2.2.1) 12 res.2.2.2.2.2.2.2.2.2.2.2.2.2.1) 14 res.2.2.2.2.2.2.2.2.2.2.2.2.2.2.1) 15 res.2.2.2.2.2.2.2.2.2.2.2.2.2.2.2.1) 16 res.2.2.2.2.2.2.2.2.2.2.2.2.2.2.2.2.1) 17 res.2.2.2.2.2.2.2.2.2.2.2.2.2.2.2.2.2.1) res.2.2.2.2.2.2.2.2.2.2.2.2.2.2.2.2.2.2.2.1 res.2.2.2.2.2.2.2.2.2.2.2.2.2.2.2.2.2.2.1 o2 A2 C2 h2 res.2.2.2.2.2.2.2.2.2.2.2.2.2.2.2.2.2.2.2.2.1 (gu (gu (gu (gu (gu gA 0 res.2.2.2.2.2.2.2.2.2.2.2.2.2.2.2.2.2.2.2.2.2.1) 1 res.2.2.2.2.2.2.2.2.2.2.2.2.2.2.2.2.2.2.2.2.2.2.1) 2 res.2.2.2.2.2.2.2.2.2.2.2.2.2.2.2.2.2.2.2.2.2.2.2.1) 3 res.2.2.2.2.2.2.2.2.2.2.2.2.2.2.2.2.2.2.2.2.2.2.2.2.1) 5 res.2.2.2.2.2.2.2.2.2.2.2.2.2.2.2.2.2.2.2.2.2.2.2.2.2) tb0 tA0 bf0 hi0) := by
  refine g_met_i (by decide +kernel) (Nat.le_of_ble_eq_true rfl) (fun Γ K hn hE hRm _ hret => ?_)
  subst hE
  have hlt : ∀ i, i < 8 → i < g_n Γ := fun i q => by rw [hn]; exact q
  refine g_ws (ws' := cw (g_E Γ) q r (gpl F) o0 A0 C0 h0 (gu (gu (gu (gu (gu (gu (gu (gu o1 0 (o1 0)) 1 (o1 1)) 2 (o1 2)) 3 (o1 3)) 4 (o1 4)) 5 (o1 5)) 6 (o1 6)) 7 (o1 7)) (gu (gu (gu (gu (gu (gu (gu (gu (gu A1 8 (A1 8)) 9 (A1 9)) 10 (A1 10)) 11 (A1 11)) 12 (A1 12)) 14 (A1 14)) 15 (A1 15)) 16 (A1 16)) 17 (A1 17)) C1 h1 o2 A2 C2 h2 gs0 (gu (gu (gu (gu (gu gA 0 (gA 0)) 1 (gA 1)) 2 (gA 2)) 3 (gA 3)) 5 (gA 5)) tb0 tA0 bf0 hi0) rfl ?_
  refine g_sub (L' := [(0, .ref (q 5)), (1, .int x1), (2, .int x2)]) [0, 1, 2] rfl ?_
  exact wX11_best (C0 := C0) (h0 := h0) (C1 := C1) (h1 := h1) (C2 := C2) (h2 := h2) (gs0 := gs0) (tb0 := tb0) (tA0 := tA0) (bf0 := bf0) (hi0 := hi0) hF K hlt hRm hret (o1 0) (o1 1) (o1 2) (o1 3) (o1 4) (o1 5) (o1 6) (o1 7) (A1 8) (A1 9) (A1 10) (A1 11) (A1 12) (A1 14) (A1 15) (A1 16) (A1 17) h1 C1 gs0 (gA 0) (gA 1) (gA 2) (gA 3) (gA 5) x1 x2 h

set_option maxHeartbeats 4000000 in
set_option maxRecDepth 100000 in
theorem wX10_exchange_w1 {Γ : gT} {q : Nat → Nat} {r : Nat → Nat → Nat} {F : gF} (hF : gFz (g_E Γ) F) {o0 : Nat → Int32} {A0 : Nat → Nat → Int32} {C0 : Nat → Option Nat} {h0 : Nat} {o1 : Nat → Int32} {A1 : Nat → Nat → Int32} {C1 : Nat → Option Nat} {h1 : Nat} {o2 : Nat → Int32} {A2 : Nat → Nat → Int32} {C2 : Nat → Option Nat} {h2 : Nat} {gs0 : Int32} {gA : Nat → Nat → Int32} {tb0 : Int32} {tA0 bf0 : Nat → Int32} {hi0 : Int32} (K : gOK Γ cX10_exchange gU RX10) (hlt : ∀ i, i < 5 → i < g_n Γ) (hRm : g_R Γ = ({ frames := 4, cells := 0, slots := 0, locals := 150 } : Room)) {res : ((Nat → Int32)) × ((Nat → Int32))} (hret : ∀ (pc : Nat) (L : List (Nat × Value)) (w : va_W), decode cX10_exchange pc = .ok (.return_, 1) → (w = cw (g_E Γ) q r (gpl F) o0 A0 C0 h0 o1 (gu (gu A1 10 res.1) 11 res.2) C1 h1 o2 A2 C2 h2 gs0 gA tb0 tA0 bf0 hi0) → gGO Γ 0 0 pc L [] w) (w1a10 : (Nat → Int32)) (w1a11 : (Nat → Int32)) (x1 : Int32) (x2 : Int32) (h : pX10_exchange_w1 w1a10 w1a11 x1 x2 = some res) : gGO Γ 0 0 0 [(0, .ref (q 1)), (1, .int x1), (2, .int x2)] [] (cw (g_E Γ) q r (gpl F) o0 A0 C0 h0 o1 (gu (gu A1 10 w1a10) 11 w1a11) C1 h1 o2 A2 C2 h2 gs0 gA tb0 tA0 bf0 hi0) := by
    unfold pX10_exchange_w1 at h
    refine g_aload_n K dX10_exchange_0 rfl 0 rfl ?_
    refine g_get (v := .ref (r 1 10)) (T := TX10) (ref := "ChiefGrades$World") K hin_X10 2 rfl rfl 10 (by decide) u_183 (Or.inl rfl) rfl dX10_exchange_1 ?_
    refine g_iload_n K dX10_exchange_4 rfl 1 rfl ?_
    obtain ⟨b_1, h⟩ := gi_none h
    refine g_iald (f := w1a10) K 18 rfl (ginb_in b_1) dX10_exchange_5 ?_
    obtain ⟨v_2, ev_2, h⟩ := gi_nm h
    refine g_topi ev_2 ?_
    refine g_istore_n (L' := [(3, .int v_2), (0, .ref (q 1)), (1, .int x1), (2, .int x2)]) K dX10_exchange_6 rfl (hlt _ (by decide)) rfl ?_
    refine g_aload_n K dX10_exchange_7 rfl 1 rfl ?_
    refine g_get (v := .ref (r 1 11)) (T := TX10) (ref := "ChiefGrades$World") K hin_X10 2 rfl rfl 11 (by decide) u_186 (Or.inl rfl) rfl dX10_exchange_8 ?_
    refine g_iload_n K dX10_exchange_11 rfl 2 rfl ?_
    obtain ⟨b_3, h⟩ := gi_none h
    refine g_iald (f := w1a11) K 19 rfl (ginb_in b_3) dX10_exchange_12 ?_
    obtain ⟨v_4, ev_4, h⟩ := gi_nm h
    refine g_topi ev_4 ?_
    refine g_istore (L' := [(4, .int v_4), (3, .int v_2), (0, .ref (q 1)), (1, .int x1), (2, .int x2)]) K dX10_exchange_13 (hlt _ (by decide)) rfl ?_
    refine g_aload_n K dX10_exchange_15 rfl 2 rfl ?_
    refine g_get (v := .ref (r 1 10)) (T := TX10) (ref := "ChiefGrades$World") K hin_X10 2 rfl rfl 10 (by decide) u_183 (Or.inl rfl) rfl dX10_exchange_16 ?_
    refine g_iload_n K dX10_exchange_19 rfl 3 rfl ?_
    refine g_aload_n K dX10_exchange_20 rfl 2 rfl ?_
    refine g_get (v := .ref (r 1 10)) (T := TX10) (ref := "ChiefGrades$World") K hin_X10 2 rfl rfl 10 (by decide) u_183 (Or.inl rfl) rfl dX10_exchange_21 ?_
    refine g_iload_n K dX10_exchange_24 rfl 4 rfl ?_
    obtain ⟨b_5, h⟩ := gi_none h
    refine g_iald (f := w1a10) K 18 rfl (ginb_in b_5) dX10_exchange_25 ?_
    obtain ⟨b_6, h⟩ := gi_none h
    obtain ⟨f_7, ef_7, h⟩ := gi_nm h
    refine g_iast (f := w1a10) (ws' := cw (g_E Γ) q r (gpl F) o0 A0 C0 h0 o1 (gu (gu A1 10 f_7) 11 w1a11) C1 h1 o2 A2 C2 h2 gs0 gA tb0 tA0 bf0 hi0) K 18 rfl (ginb_in b_6) dX10_exchange_26 (by rw [ef_7]; rfl) ?_
    refine g_aload_n K dX10_exchange_27 rfl 2 rfl ?_
    refine g_get (v := .ref (r 1 11)) (T := TX10) (ref := "ChiefGrades$World") K hin_X10 2 rfl rfl 11 (by decide) u_186 (Or.inl rfl) rfl dX10_exchange_28 ?_
    refine g_iload_n K dX10_exchange_31 rfl 3 rfl ?_
    refine g_aload_n K dX10_exchange_32 rfl 2 rfl ?_
    refine g_get (v := .ref (r 1 11)) (T := TX10) (ref := "ChiefGrades$World") K hin_X10 2 rfl rfl 11 (by decide) u_186 (Or.inl rfl) rfl dX10_exchange_33 ?_
    refine g_iload_n K dX10_exchange_36 rfl 4 rfl ?_
    obtain ⟨b_8, h⟩ := gi_none h
    refine g_iald (f := w1a11) K 19 rfl (ginb_in b_8) dX10_exchange_37 ?_
    obtain ⟨b_9, h⟩ := gi_none h
    obtain ⟨f_10, ef_10, h⟩ := gi_nm h
    refine g_iast (f := w1a11) (ws' := cw (g_E Γ) q r (gpl F) o0 A0 C0 h0 o1 (gu (gu A1 10 f_7) 11 f_10) C1 h1 o2 A2 C2 h2 gs0 gA tb0 tA0 bf0 hi0) K 19 rfl (ginb_in b_9) dX10_exchange_38 (by rw [ef_10]; rfl) ?_
    refine g_aload_n K dX10_exchange_39 rfl 2 rfl ?_
    refine g_get (v := .ref (r 1 10)) (T := TX10) (ref := "ChiefGrades$World") K hin_X10 2 rfl rfl 10 (by decide) u_183 (Or.inl rfl) rfl dX10_exchange_40 ?_
    refine g_iload_n K dX10_exchange_43 rfl 4 rfl ?_
    refine g_iload_n K dX10_exchange_44 rfl 1 rfl ?_
    obtain ⟨b_11, h⟩ := gi_none h
    obtain ⟨f_12, ef_12, h⟩ := gi_nm h
    refine g_iast (f := f_7) (ws' := cw (g_E Γ) q r (gpl F) o0 A0 C0 h0 o1 (gu (gu A1 10 f_12) 11 f_10) C1 h1 o2 A2 C2 h2 gs0 gA tb0 tA0 bf0 hi0) K 18 rfl (ginb_in b_11) dX10_exchange_45 (by rw [ef_12]; rfl) ?_
    refine g_aload_n K dX10_exchange_46 rfl 2 rfl ?_
    refine g_get (v := .ref (r 1 11)) (T := TX10) (ref := "ChiefGrades$World") K hin_X10 2 rfl rfl 11 (by decide) u_186 (Or.inl rfl) rfl dX10_exchange_47 ?_
    refine g_iload_n K dX10_exchange_50 rfl 4 rfl ?_
    refine g_iload K dX10_exchange_51 0 rfl ?_
    obtain ⟨b_13, h⟩ := gi_none h
    obtain ⟨f_14, ef_14, h⟩ := gi_nm h
    refine g_iast (f := f_10) (ws' := cw (g_E Γ) q r (gpl F) o0 A0 C0 h0 o1 (gu (gu A1 10 f_12) 11 f_14) C1 h1 o2 A2 C2 h2 gs0 gA tb0 tA0 bf0 hi0) K 19 rfl (ginb_in b_13) dX10_exchange_53 (by rw [ef_14]; rfl) ?_
    obtain rfl := Option.some.inj h
    exact hret _ _ _ dX10_exchange_54 rfl

set_option maxRecDepth 100000 in
theorem ctX10_exchange_w1 {E : gE} {q : Nat → Nat} {r : Nat → Nat → Nat} {F : gF} (hF : gFz E F) (o0 : Nat → Int32) (A0 : Nat → Nat → Int32) (C0 : Nat → Option Nat) (h0 : Nat) (o1 : Nat → Int32) (A1 : Nat → Nat → Int32) (C1 : Nat → Option Nat) (h1 : Nat) (o2 : Nat → Int32) (A2 : Nat → Nat → Int32) (C2 : Nat → Option Nat) (h2 : Nat) (gs0 : Int32) (gA : Nat → Nat → Int32) (tb0 : Int32) (tA0 bf0 : Nat → Int32) (hi0 : Int32) (x1 : Int32) (x2 : Int32) {res : ((Nat → Int32)) × ((Nat → Int32))} (h : pX10_exchange_w1 (A1 10) (A1 11) x1 x2 = some res) : gMv yX10_exchange (.code yX10_exchange cX10_exchange 5 none :: gU) ({ frames := 4, cells := 0, slots := 0, locals := 150 } : Room) 0 0 E [.ref (q 1), .int x1, .int x2] (cw E q r (gpl F) o0 A0 C0 h0 o1 A1 C1 h1 o2 A2 C2 h2 gs0 gA tb0 tA0 bf0 hi0) (fun w => w = cw E q r (gpl F) o0 A0 C0 h0 o1 (gu (gu A1 10 res.1) 11 res.2) C1 h1 o2 A2 C2 h2 gs0 gA tb0 tA0 bf0 hi0) := by
  refine g_met_v (by decide +kernel) (Nat.le_of_ble_eq_true rfl) (fun Γ K hn hE hRm _ hret => ?_)
  subst hE
  have hlt : ∀ i, i < 5 → i < g_n Γ := fun i q => by rw [hn]; exact q
  refine g_ws (ws' := cw (g_E Γ) q r (gpl F) o0 A0 C0 h0 o1 (gu (gu A1 10 (A1 10)) 11 (A1 11)) C1 h1 o2 A2 C2 h2 gs0 gA tb0 tA0 bf0 hi0) rfl ?_
  refine g_sub (L' := [(0, .ref (q 1)), (1, .int x1), (2, .int x2)]) [0, 1, 2] rfl ?_
  exact wX10_exchange_w1 (C0 := C0) (h0 := h0) (C1 := C1) (h1 := h1) (C2 := C2) (h2 := h2) (gs0 := gs0) (tb0 := tb0) (tA0 := tA0) (bf0 := bf0) (hi0 := hi0) hF K hlt hRm hret (A1 10) (A1 11) x1 x2 h

set_option maxHeartbeats 4000000 in
set_option maxRecDepth 100000 in
theorem wX11_bothGain {Γ : gT} {q : Nat → Nat} {r : Nat → Nat → Nat} {F : gF} (hF : gFz (g_E Γ) F) {o0 : Nat → Int32} {A0 : Nat → Nat → Int32} {C0 : Nat → Option Nat} {h0 : Nat} {o1 : Nat → Int32} {A1 : Nat → Nat → Int32} {C1 : Nat → Option Nat} {h1 : Nat} {o2 : Nat → Int32} {A2 : Nat → Nat → Int32} {C2 : Nat → Option Nat} {h2 : Nat} {gs0 : Int32} {gA : Nat → Nat → Int32} {tb0 : Int32} {tA0 bf0 : Nat → Int32} {hi0 : Int32} (K : gOK Γ cX11_bothGain gU RX11) (hlt : ∀ i, i < 4 → i < g_n Γ) (hRm : g_R Γ = ({ frames := 10, cells := 0, slots := 0, locals := 283 } : Room)) {res : Int32 × ((Nat → Int32)) × ((Nat → Int32)) × Int32 × ((Nat → Int32)) × ((Nat → Int32)) × ((Nat → Int32)) × ((Nat → Int32)) × ((Nat → Int32))} (hret : ∀ (pc : Nat) (L : List (Nat × Value)) (v : Int32) (w : va_W), decode cX11_bothGain pc = .ok (.ireturn, 1) → narrow .boolean (.int v) = .int v → (v = res.1 ∧ w = cw (g_E Γ) q r (gpl F) o0 A0 C0 h0 o1 (gu (gu A1 10 res.2.1) 11 res.2.2.1) C1 h1 o2 A2 C2 h2 res.2.2.2.1 (gu (gu (gu (gu (gu gA 0 res.2.2.2.2.1) 1 res.2.2.2.2.2.1) 2 res.2.2.2.2.2.2.1) 3 res.2.2.2.2.2.2.2.1) 5 res.2.2.2.2.2.2.2.2) tb0 tA0 bf0 hi0) → gGO Γ 0 0 pc L [.int v] w) (w1a10 : (Nat → Int32)) (w1a11 : (Nat → Int32)) (gs : Int32) (ga0 : (Nat → Int32)) (ga1 : (Nat → Int32)) (ga2 : (Nat → Int32)) (ga3 : (Nat → Int32)) (ga5 : (Nat → Int32)) (x1 : Int32) (x2 : Int32) (h : pX11_bothGain F (o1 0) (o1 1) (o1 5) (A1 8) (A1 9) h1 C1 bf0 w1a10 w1a11 gs ga0 ga1 ga2 ga3 ga5 x1 x2 = some res) : gGO Γ 0 0 0 [(0, .ref (q 5)), (1, .int x1), (2, .int x2)] [] (cw (g_E Γ) q r (gpl F) o0 A0 C0 h0 o1 (gu (gu A1 10 w1a10) 11 w1a11) C1 h1 o2 A2 C2 h2 gs (gu (gu (gu (gu (gu gA 0 ga0) 1 ga1) 2 ga2) 3 ga3) 5 ga5) tb0 tA0 bf0 hi0) := by
    unfold pX11_bothGain at h
    refine g_aload_n K dX11_bothGain_0 rfl 0 rfl ?_
    refine g_get (v := .ref (q 1)) (T := TX11) (ref := "ChiefGrades") K hin_X11 0 rfl rfl 1 (by decide) u_325 (Or.inl rfl) rfl dX11_bothGain_1 ?_
    refine g_iload_n K dX11_bothGain_4 rfl 1 rfl ?_
    obtain ⟨z_1, hz_1, h⟩ := gi_bd h
    refine g_callVi (As := [.int x1]) (bytes := cX10_hasWorker) (maxL := 2) (ret := (some .boolean)) K (ctX10_hasWorker_w1 hF o0 A0 C0 h0 o1 (gu (gu A1 10 w1a10) 11 w1a11) C1 h1 o2 A2 C2 h2 gs (gu (gu (gu (gu (gu gA 0 ga0) 1 ga1) 2 ga2) 3 ga3) 5 ga5) tb0 tA0 bf0 hi0 x1 (res := z_1) hz_1) gc_V_RX11_122_X10_hasWorker rfl qv_X10_hasWorker 2 rfl rfl rfl hRm rfl rfl rfl (by decide) (Nat.le_of_ble_eq_true rfl) (by decide) dX11_bothGain_5 (fun v w hw => ?_)
    obtain ⟨hv9, rfl⟩ := hw; have hv9 := hv9.symm; subst hv9
    obtain ⟨ht9, hf9⟩ := gi_br h; clear h
    refine g_if_eq (tgt := 22) K dX11_bothGain_8 (by decide) (fun qh => ?_) (fun qh => ?_)
    · have h := ht9 qh; clear ht9 hf9
      refine g_iconst (v := 0) K dX11_bothGain_22 (by decide) ?_
      obtain rfl := Option.some.inj h
      exact hret _ _ _ _ dX11_bothGain_23 (by decide) ⟨rfl, rfl⟩
    · have h := hf9 qh; clear ht9 hf9
      refine g_aload_n K dX11_bothGain_11 rfl 0 rfl ?_
      refine g_get (v := .ref (q 1)) (T := TX11) (ref := "ChiefGrades") K hin_X11 0 rfl rfl 1 (by decide) u_325 (Or.inl rfl) rfl dX11_bothGain_12 ?_
      refine g_iload_n K dX11_bothGain_15 rfl 2 rfl ?_
      obtain ⟨z_2, hz_2, h⟩ := gi_bd h
      refine g_callVi (As := [.int x2]) (bytes := cX10_hasWorker) (maxL := 2) (ret := (some .boolean)) K (ctX10_hasWorker_w1 hF o0 A0 C0 h0 o1 (gu (gu A1 10 w1a10) 11 w1a11) C1 h1 o2 A2 C2 h2 gs (gu (gu (gu (gu (gu gA 0 ga0) 1 ga1) 2 ga2) 3 ga3) 5 ga5) tb0 tA0 bf0 hi0 x2 (res := z_2) hz_2) gc_V_RX11_122_X10_hasWorker rfl qv_X10_hasWorker 2 rfl rfl rfl hRm rfl rfl rfl (by decide) (Nat.le_of_ble_eq_true rfl) (by decide) dX11_bothGain_16 (fun v w hw => ?_)
      obtain ⟨hv9, rfl⟩ := hw; have hv9 := hv9.symm; subst hv9
      obtain ⟨ht9, hf9⟩ := gi_br h; clear h
      refine g_if_ne (tgt := 24) K dX11_bothGain_19 (by decide) (fun qh => ?_) (fun qh => ?_)
      · have h := hf9 qh; clear ht9 hf9
        refine g_aload_n K dX11_bothGain_24 rfl 0 rfl ?_
        refine g_get (v := .ref (q 1)) (T := TX11) (ref := "ChiefGrades") K hin_X11 0 rfl rfl 1 (by decide) u_325 (Or.inl rfl) rfl dX11_bothGain_25 ?_
        refine g_get (v := .ref (r 1 10)) (T := TX10) (ref := "ChiefGrades$World") K hin_X10 2 rfl rfl 10 (by decide) u_185 (Or.inl rfl) rfl dX11_bothGain_28 ?_
        refine g_iload_n K dX11_bothGain_31 rfl 1 rfl ?_
        obtain ⟨b_3, h⟩ := gi_none h
        refine g_iald (f := w1a10) K 18 rfl (ginb_in b_3) dX11_bothGain_32 ?_
        refine g_aload_n K dX11_bothGain_33 rfl 0 rfl ?_
        refine g_get (v := .ref (q 1)) (T := TX11) (ref := "ChiefGrades") K hin_X11 0 rfl rfl 1 (by decide) u_325 (Or.inl rfl) rfl dX11_bothGain_34 ?_
        refine g_get (v := .ref (r 1 10)) (T := TX10) (ref := "ChiefGrades$World") K hin_X10 2 rfl rfl 10 (by decide) u_185 (Or.inl rfl) rfl dX11_bothGain_37 ?_
        refine g_iload_n K dX11_bothGain_40 rfl 2 rfl ?_
        obtain ⟨b_4, h⟩ := gi_none h
        refine g_iald (f := w1a10) K 18 rfl (ginb_in b_4) dX11_bothGain_41 ?_
        obtain ⟨ht9, hf9⟩ := gi_br h; clear h
        refine g_icmp_ne (tgt := 47) K dX11_bothGain_42 (by decide) (fun qh => ?_) (fun qh => ?_)
        · have h := hf9 qh; clear ht9 hf9
          refine g_aload_n K dX11_bothGain_47 rfl 0 rfl ?_
          refine g_get (v := .ref (q 1)) (T := TX11) (ref := "ChiefGrades") K hin_X11 0 rfl rfl 1 (by decide) u_325 (Or.inl rfl) rfl dX11_bothGain_48 ?_
          refine g_iload_n K dX11_bothGain_51 rfl 1 rfl ?_
          refine g_iload_n K dX11_bothGain_52 rfl 2 rfl ?_
          obtain ⟨z_5, hz_5, h⟩ := gi_bd h
          refine g_callVv (As := [.int x1, .int x2]) (bytes := cX10_exchange) (maxL := 5) (ret := none) K (ctX10_exchange_w1 hF o0 A0 C0 h0 o1 (gu (gu A1 10 w1a10) 11 w1a11) C1 h1 o2 A2 C2 h2 gs (gu (gu (gu (gu (gu gA 0 ga0) 1 ga1) 2 ga2) 3 ga3) 5 ga5) tb0 tA0 bf0 hi0 x1 x2 (res := z_5) hz_5) gc_V_RX11_251_X10_exchange rfl qv_X10_exchange 2 rfl rfl rfl hRm rfl rfl rfl (by decide) (Nat.le_of_ble_eq_true rfl) (by decide) dX11_bothGain_53 (fun w hw => ?_)
          subst hw
          refine g_ws (ws' := cw (g_E Γ) q r (gpl F) o0 A0 C0 h0 o1 (gu (gu A1 10 z_5.1) 11 z_5.2) C1 h1 o2 A2 C2 h2 gs (gu (gu (gu (gu (gu gA 0 ga0) 1 ga1) 2 ga2) 3 ga3) 5 ga5) tb0 tA0 bf0 hi0) rfl ?_
          refine g_aload_n K dX11_bothGain_56 rfl 0 rfl ?_
          refine g_get (v := .ref (q 3)) (T := TX11) (ref := "ChiefGrades") K hin_X11 0 rfl rfl 3 (by decide) u_327 (Or.inl rfl) rfl dX11_bothGain_57 ?_
          refine g_aload_n K dX11_bothGain_60 rfl 0 rfl ?_
          refine g_get (v := .ref (q 1)) (T := TX11) (ref := "ChiefGrades") K hin_X11 0 rfl rfl 1 (by decide) u_325 (Or.inl rfl) rfl dX11_bothGain_61 ?_
          refine g_iload_n K dX11_bothGain_64 rfl 1 rfl ?_
          obtain ⟨z_6, hz_6, h⟩ := gi_bd h
          refine g_callVi (As := [.ref (q 1), .int x1]) (bytes := cX1_gradeHad) (maxL := 4) (ret := (some .int)) K (ctX1_gradeHad_w1 hF o0 A0 C0 h0 o1 (gu (gu A1 10 z_5.1) 11 z_5.2) C1 h1 o2 A2 C2 h2 gs (gu (gu (gu (gu (gu gA 0 ga0) 1 ga1) 2 ga2) 3 ga3) 5 ga5) tb0 tA0 bf0 hi0 x1 (res := z_6) hz_6) gc_V_RX11_130_X1_gradeHad rfl qv_X1_gradeHad 4 rfl rfl rfl hRm rfl rfl rfl (by decide) (Nat.le_of_ble_eq_true rfl) (by decide) dX11_bothGain_65 (fun v w hw => ?_)
          obtain ⟨hv9, rfl⟩ := hw; have hv9 := hv9.symm; subst hv9
          refine g_ws (ws' := cw (g_E Γ) q r (gpl F) o0 A0 C0 h0 o1 (gu (gu A1 10 z_5.1) 11 z_5.2) C1 h1 o2 A2 C2 h2 z_6.2.1 (gu (gu (gu (gu (gu gA 0 z_6.2.2.1) 1 z_6.2.2.2.1) 2 z_6.2.2.2.2.1) 3 z_6.2.2.2.2.2.1) 5 z_6.2.2.2.2.2.2) tb0 tA0 bf0 hi0) rfl ?_
          refine g_aload_n K dX11_bothGain_68 rfl 0 rfl ?_
          refine g_get (v := .ref (r 5 5)) (T := TX11) (ref := "ChiefGrades") K hin_X11 0 rfl rfl 5 (by decide) u_329 (Or.inl rfl) rfl dX11_bothGain_69 ?_
          refine g_iload_n K dX11_bothGain_72 rfl 1 rfl ?_
          obtain ⟨b_7, h⟩ := gi_none h
          refine g_iald (f := bf0) K 42 rfl (ginb_in b_7) dX11_bothGain_73 ?_
          obtain ⟨ht9, hf9⟩ := gi_br h; clear h
          refine g_icmp_le (tgt := 102) K dX11_bothGain_74 (by decide) (fun qh => ?_) (fun qh => ?_)
          · have h := ht9 qh; clear ht9 hf9
            refine g_iconst (v := 0) K dX11_bothGain_102 (by decide) ?_
            refine g_istore_n (L' := [(3, .int 0), (0, .ref (q 5)), (1, .int x1), (2, .int x2)]) K dX11_bothGain_103 rfl (hlt _ (by decide)) rfl ?_
            refine g_aload_n K dX11_bothGain_104 rfl 1 rfl ?_
            refine g_get (v := .ref (q 1)) (T := TX11) (ref := "ChiefGrades") K hin_X11 0 rfl rfl 1 (by decide) u_325 (Or.inl rfl) rfl dX11_bothGain_105 ?_
            refine g_iload_n K dX11_bothGain_108 rfl 2 rfl ?_
            refine g_iload_n K dX11_bothGain_109 rfl 3 rfl ?_
            obtain ⟨z_8, hz_8, h⟩ := gi_bd h
            refine g_callVv (As := [.int x1, .int x2]) (bytes := cX10_exchange) (maxL := 5) (ret := none) K (ctX10_exchange_w1 hF o0 A0 C0 h0 o1 (gu (gu A1 10 z_5.1) 11 z_5.2) C1 h1 o2 A2 C2 h2 z_6.2.1 (gu (gu (gu (gu (gu gA 0 z_6.2.2.1) 1 z_6.2.2.2.1) 2 z_6.2.2.2.2.1) 3 z_6.2.2.2.2.2.1) 5 z_6.2.2.2.2.2.2) tb0 tA0 bf0 hi0 x1 x2 (res := z_8) hz_8) gc_V_RX11_251_X10_exchange rfl qv_X10_exchange 2 rfl rfl rfl hRm rfl rfl rfl (by decide) (Nat.le_of_ble_eq_true rfl) (by decide) dX11_bothGain_110 (fun w hw => ?_)
            subst hw
            refine g_ws (ws' := cw (g_E Γ) q r (gpl F) o0 A0 C0 h0 o1 (gu (gu A1 10 z_8.1) 11 z_8.2) C1 h1 o2 A2 C2 h2 z_6.2.1 (gu (gu (gu (gu (gu gA 0 z_6.2.2.1) 1 z_6.2.2.2.1) 2 z_6.2.2.2.2.1) 3 z_6.2.2.2.2.2.1) 5 z_6.2.2.2.2.2.2) tb0 tA0 bf0 hi0) rfl ?_
            refine g_iload_n K dX11_bothGain_113 rfl 0 rfl ?_
            obtain rfl := Option.some.inj h
            exact hret _ _ _ _ dX11_bothGain_114 (by decide) ⟨rfl, rfl⟩
          · have h := hf9 qh; clear ht9 hf9
            refine g_aload_n K dX11_bothGain_77 rfl 0 rfl ?_
            refine g_get (v := .ref (q 3)) (T := TX11) (ref := "ChiefGrades") K hin_X11 0 rfl rfl 3 (by decide) u_327 (Or.inl rfl) rfl dX11_bothGain_78 ?_
            refine g_aload_n K dX11_bothGain_81 rfl 0 rfl ?_
            refine g_get (v := .ref (q 1)) (T := TX11) (ref := "ChiefGrades") K hin_X11 0 rfl rfl 1 (by decide) u_325 (Or.inl rfl) rfl dX11_bothGain_82 ?_
            refine g_iload_n K dX11_bothGain_85 rfl 2 rfl ?_
            obtain ⟨z_9, hz_9, h⟩ := gi_bd h
            refine g_callVi (As := [.ref (q 1), .int x2]) (bytes := cX1_gradeHad) (maxL := 4) (ret := (some .int)) K (ctX1_gradeHad_w1 hF o0 A0 C0 h0 o1 (gu (gu A1 10 z_5.1) 11 z_5.2) C1 h1 o2 A2 C2 h2 z_6.2.1 (gu (gu (gu (gu (gu gA 0 z_6.2.2.1) 1 z_6.2.2.2.1) 2 z_6.2.2.2.2.1) 3 z_6.2.2.2.2.2.1) 5 z_6.2.2.2.2.2.2) tb0 tA0 bf0 hi0 x2 (res := z_9) hz_9) gc_V_RX11_130_X1_gradeHad rfl qv_X1_gradeHad 4 rfl rfl rfl hRm rfl rfl rfl (by decide) (Nat.le_of_ble_eq_true rfl) (by decide) dX11_bothGain_86 (fun v w hw => ?_)
            obtain ⟨hv9, rfl⟩ := hw; have hv9 := hv9.symm; subst hv9
            refine g_ws (ws' := cw (g_E Γ) q r (gpl F) o0 A0 C0 h0 o1 (gu (gu A1 10 z_5.1) 11 z_5.2) C1 h1 o2 A2 C2 h2 z_9.2.1 (gu (gu (gu (gu (gu gA 0 z_9.2.2.1) 1 z_9.2.2.2.1) 2 z_9.2.2.2.2.1) 3 z_9.2.2.2.2.2.1) 5 z_9.2.2.2.2.2.2) tb0 tA0 bf0 hi0) rfl ?_
            refine g_aload_n K dX11_bothGain_89 rfl 0 rfl ?_
            refine g_get (v := .ref (r 5 5)) (T := TX11) (ref := "ChiefGrades") K hin_X11 0 rfl rfl 5 (by decide) u_329 (Or.inl rfl) rfl dX11_bothGain_90 ?_
            refine g_iload_n K dX11_bothGain_93 rfl 2 rfl ?_
            obtain ⟨b_10, h⟩ := gi_none h
            refine g_iald (f := bf0) K 42 rfl (ginb_in b_10) dX11_bothGain_94 ?_
            obtain ⟨ht9, hf9⟩ := gi_br h; clear h
            refine g_icmp_le (tgt := 102) K dX11_bothGain_95 (by decide) (fun qh => ?_) (fun qh => ?_)
            · have h := ht9 qh; clear ht9 hf9
              refine g_iconst (v := 0) K dX11_bothGain_102 (by decide) ?_
              refine g_istore_n (L' := [(3, .int 0), (0, .ref (q 5)), (1, .int x1), (2, .int x2)]) K dX11_bothGain_103 rfl (hlt _ (by decide)) rfl ?_
              refine g_aload_n K dX11_bothGain_104 rfl 1 rfl ?_
              refine g_get (v := .ref (q 1)) (T := TX11) (ref := "ChiefGrades") K hin_X11 0 rfl rfl 1 (by decide) u_325 (Or.inl rfl) rfl dX11_bothGain_105 ?_
              refine g_iload_n K dX11_bothGain_108 rfl 2 rfl ?_
              refine g_iload_n K dX11_bothGain_109 rfl 3 rfl ?_
              obtain ⟨z_11, hz_11, h⟩ := gi_bd h
              refine g_callVv (As := [.int x1, .int x2]) (bytes := cX10_exchange) (maxL := 5) (ret := none) K (ctX10_exchange_w1 hF o0 A0 C0 h0 o1 (gu (gu A1 10 z_5.1) 11 z_5.2) C1 h1 o2 A2 C2 h2 z_9.2.1 (gu (gu (gu (gu (gu gA 0 z_9.2.2.1) 1 z_9.2.2.2.1) 2 z_9.2.2.2.2.1) 3 z_9.2.2.2.2.2.1) 5 z_9.2.2.2.2.2.2) tb0 tA0 bf0 hi0 x1 x2 (res := z_11) hz_11) gc_V_RX11_251_X10_exchange rfl qv_X10_exchange 2 rfl rfl rfl hRm rfl rfl rfl (by decide) (Nat.le_of_ble_eq_true rfl) (by decide) dX11_bothGain_110 (fun w hw => ?_)
              subst hw
              refine g_ws (ws' := cw (g_E Γ) q r (gpl F) o0 A0 C0 h0 o1 (gu (gu A1 10 z_11.1) 11 z_11.2) C1 h1 o2 A2 C2 h2 z_9.2.1 (gu (gu (gu (gu (gu gA 0 z_9.2.2.1) 1 z_9.2.2.2.1) 2 z_9.2.2.2.2.1) 3 z_9.2.2.2.2.2.1) 5 z_9.2.2.2.2.2.2) tb0 tA0 bf0 hi0) rfl ?_
              refine g_iload_n K dX11_bothGain_113 rfl 0 rfl ?_
              obtain rfl := Option.some.inj h
              exact hret _ _ _ _ dX11_bothGain_114 (by decide) ⟨rfl, rfl⟩
            · have h := hf9 qh; clear ht9 hf9
              refine g_iconst (v := 1) K dX11_bothGain_98 (by decide) ?_
              refine g_goto (tgt := 103) K dX11_bothGain_99 (by decide) ?_
              refine g_istore_n (L' := [(3, .int 1), (0, .ref (q 5)), (1, .int x1), (2, .int x2)]) K dX11_bothGain_103 rfl (hlt _ (by decide)) rfl ?_
              refine g_aload_n K dX11_bothGain_104 rfl 1 rfl ?_
              refine g_get (v := .ref (q 1)) (T := TX11) (ref := "ChiefGrades") K hin_X11 0 rfl rfl 1 (by decide) u_325 (Or.inl rfl) rfl dX11_bothGain_105 ?_
              refine g_iload_n K dX11_bothGain_108 rfl 2 rfl ?_
              refine g_iload_n K dX11_bothGain_109 rfl 3 rfl ?_
              obtain ⟨z_12, hz_12, h⟩ := gi_bd h
              refine g_callVv (As := [.int x1, .int x2]) (bytes := cX10_exchange) (maxL := 5) (ret := none) K (ctX10_exchange_w1 hF o0 A0 C0 h0 o1 (gu (gu A1 10 z_5.1) 11 z_5.2) C1 h1 o2 A2 C2 h2 z_9.2.1 (gu (gu (gu (gu (gu gA 0 z_9.2.2.1) 1 z_9.2.2.2.1) 2 z_9.2.2.2.2.1) 3 z_9.2.2.2.2.2.1) 5 z_9.2.2.2.2.2.2) tb0 tA0 bf0 hi0 x1 x2 (res := z_12) hz_12) gc_V_RX11_251_X10_exchange rfl qv_X10_exchange 2 rfl rfl rfl hRm rfl rfl rfl (by decide) (Nat.le_of_ble_eq_true rfl) (by decide) dX11_bothGain_110 (fun w hw => ?_)
              subst hw
              refine g_ws (ws' := cw (g_E Γ) q r (gpl F) o0 A0 C0 h0 o1 (gu (gu A1 10 z_12.1) 11 z_12.2) C1 h1 o2 A2 C2 h2 z_9.2.1 (gu (gu (gu (gu (gu gA 0 z_9.2.2.1) 1 z_9.2.2.2.1) 2 z_9.2.2.2.2.1) 3 z_9.2.2.2.2.2.1) 5 z_9.2.2.2.2.2.2) tb0 tA0 bf0 hi0) rfl ?_
              refine g_iload_n K dX11_bothGain_113 rfl 0 rfl ?_
              obtain rfl := Option.some.inj h
              exact hret _ _ _ _ dX11_bothGain_114 (by decide) ⟨rfl, rfl⟩
        · have h := ht9 qh; clear ht9 hf9
          refine g_iconst (v := 0) K dX11_bothGain_45 (by decide) ?_
          obtain rfl := Option.some.inj h
          exact hret _ _ _ _ dX11_bothGain_46 (by decide) ⟨rfl, rfl⟩
      · have h := ht9 qh; clear ht9 hf9
        refine g_iconst (v := 0) K dX11_bothGain_22 (by decide) ?_
        obtain rfl := Option.some.inj h
        exact hret _ _ _ _ dX11_bothGain_23 (by decide) ⟨rfl, rfl⟩

set_option maxRecDepth 100000 in
theorem ctX11_bothGain {E : gE} {q : Nat → Nat} {r : Nat → Nat → Nat} {F : gF} (hF : gFz E F) (o0 : Nat → Int32) (A0 : Nat → Nat → Int32) (C0 : Nat → Option Nat) (h0 : Nat) (o1 : Nat → Int32) (A1 : Nat → Nat → Int32) (C1 : Nat → Option Nat) (h1 : Nat) (o2 : Nat → Int32) (A2 : Nat → Nat → Int32) (C2 : Nat → Option Nat) (h2 : Nat) (gs0 : Int32) (gA : Nat → Nat → Int32) (tb0 : Int32) (tA0 bf0 : Nat → Int32) (hi0 : Int32) (x1 : Int32) (x2 : Int32) {res : Int32 × ((Nat → Int32)) × ((Nat → Int32)) × Int32 × ((Nat → Int32)) × ((Nat → Int32)) × ((Nat → Int32)) × ((Nat → Int32)) × ((Nat → Int32))} (h : pX11_bothGain F (o1 0) (o1 1) (o1 5) (A1 8) (A1 9) h1 C1 bf0 (A1 10) (A1 11) gs0 (gA 0) (gA 1) (gA 2) (gA 3) (gA 5) x1 x2 = some res) : gMi yX11_bothGain (.code yX11_bothGain cX11_bothGain 4 (some .boolean) :: gU) ({ frames := 10, cells := 0, slots := 0, locals := 283 } : Room) 0 0 E [.ref (q 5), .int x1, .int x2] (cw E q r (gpl F) o0 A0 C0 h0 o1 A1 C1 h1 o2 A2 C2 h2 gs0 gA tb0 tA0 bf0 hi0) (fun v w => v = res.1 ∧ w = cw E q r (gpl F) o0 A0 C0 h0 o1 (gu (gu A1 10 res.2.1) 11 res.2.2.1) C1 h1 o2 A2 C2 h2 res.2.2.2.1 (gu (gu (gu (gu (gu gA 0 res.2.2.2.2.1) 1 res.2.2.2.2.2.1) 2 res.2.2.2.2.2.2.1) 3 res.2.2.2.2.2.2.2.1) 5 res.2.2.2.2.2.2.2.2) tb0 tA0 bf0 hi0) := by
  refine g_met_i (by decide +kernel) (Nat.le_of_ble_eq_true rfl) (fun Γ K hn hE hRm _ hret => ?_)
  subst hE
  have hlt : ∀ i, i < 4 → i < g_n Γ := fun i q => by rw [hn]; exact q
  refine g_ws (ws' := cw (g_E Γ) q r (gpl F) o0 A0 C0 h0 o1 (gu (gu A1 10 (A1 10)) 11 (A1 11)) C1 h1 o2 A2 C2 h2 gs0 (gu (gu (gu (gu (gu gA 0 (gA 0)) 1 (gA 1)) 2 (gA 2)) 3 (gA 3)) 5 (gA 5)) tb0 tA0 bf0 hi0) rfl ?_
  refine g_sub (L' := [(0, .ref (q 5)), (1, .int x1), (2, .int x2)]) [0, 1, 2] rfl ?_
  exact wX11_bothGain (C0 := C0) (h0 := h0) (C1 := C1) (h1 := h1) (C2 := C2) (h2 := h2) (gs0 := gs0) (tb0 := tb0) (tA0 := tA0) (bf0 := bf0) (hi0 := hi0) hF K hlt hRm hret (A1 10) (A1 11) gs0 (gA 0) (gA 1) (gA 2) (gA 3) (gA 5) x1 x2 h

set_option maxHeartbeats 4000000 in
set_option maxRecDepth 100000 in
theorem wX11_swap_72 {Γ : gT} {q : Nat → Nat} {r : Nat → Nat → Nat} {F : gF} (hF : gFz (g_E Γ) F) {o0 : Nat → Int32} {A0 : Nat → Nat → Int32} {C0 : Nat → Option Nat} {h0 : Nat} {o1 : Nat → Int32} {A1 : Nat → Nat → Int32} {C1 : Nat → Option Nat} {h1 : Nat} {o2 : Nat → Int32} {A2 : Nat → Nat → Int32} {C2 : Nat → Option Nat} {h2 : Nat} {gs0 : Int32} {gA : Nat → Nat → Int32} {tb0 : Int32} {tA0 bf0 : Nat → Int32} {hi0 : Int32} (K : gOK Γ cX11_swap gU RX11) (hlt : ∀ i, i < 6 → i < g_n Γ) (hRm : g_R Γ = ({ frames := 11, cells := 0, slots := 0, locals := 306 } : Room)) {res : Int32 × Int32 × Int32 × Int32 × Int32 × Int32 × Int32 × Int32 × Int32 × ((Nat → Int32)) × ((Nat → Int32)) × ((Nat → Int32)) × ((Nat → Int32)) × ((Nat → Int32)) × ((Nat → Int32)) × ((Nat → Int32)) × ((Nat → Int32)) × ((Nat → Int32)) × Nat × ((Nat → Option Nat)) × Int32 × ((Nat → Int32)) × ((Nat → Int32)) × ((Nat → Int32)) × ((Nat → Int32)) × ((Nat → Int32)) × ((Nat → Int32))} (hret : ∀ (pc : Nat) (L : List (Nat × Value)) (v : Int32) (w : va_W), decode cX11_swap pc = .ok (.ireturn, 1) → narrow .int (.int v) = .int v → (v = res.1 ∧ w = cw (g_E Γ) q r (gpl F) o0 A0 C0 h0 (gu (gu (gu (gu (gu (gu (gu (gu o1 0 res.2.1) 1 res.2.2.1) 2 res.2.2.2.1) 3 res.2.2.2.2.1) 4 res.2.2.2.2.2.1) 5 res.2.2.2.2.2.2.1) 6 res.2.2.2.2.2.2.2.1) 7 res.2.2.2.2.2.2.2.2.1) (gu (gu (gu (gu (gu (gu (gu (gu (gu A1 8 res.2.2.2.2.2.2.2.2.2.1) 9 res.2.2.2.2.2.2.2.2.2.2.1) 10 res.2.2.2.2.2.2.2.2.2.2.2.1) 11 res.2.2.2.2.2.2.2.2.2.2.2.2.1) 12 res.2.2.2.2.2.2.2.2.2.2.2.2.2.1) 14 res.2.2.2.2.2.2.2.2.2.2.2.2.2.2.1) 15 res.2.2.2.2.2.2.2.2.2.2.2.2.2.2.2.1) 16 res.2.2.2.2.2.2.2.2.2.2.2.2.2.2.2.2.1) 17 res.2.2.2.2.2.2.2.2.2.2.2.2.2.2.2.2.2.1) res.2.2.2.2.2.2.2.2.2.2.2.2.2.2.2.2.2.2.2.1 res.2.2.2.2.2.2.2.2.2.2.2.2.2.2.2.2.2.2.1 o2 A2 C2 h2 res.2.2.2.2.2.2.2.2.2.2.2.2.2.2.2.2.2.2.2.2.1 (gu (gu (gu (gu (gu gA 0 res.2.2.2.2.2.2.2.2.2.2.2.2.2.2.2.2.2.2.2.2.2.1) 1 res.2.2.2.2.2.2.2.2.2.2.2.2.2.2.2.2.2.2.2.2.2.2.1) 2 res.2.2.2.2.2.2.2.2.2.2.2.2.2.2.2.2.2.2.2.2.2.2.2.1) 3 res.2.2.2.2.2.2.2.2.2.2.2.2.2.2.2.2.2.2.2.2.2.2.2.2.1) 5 res.2.2.2.2.2.2.2.2.2.2.2.2.2.2.2.2.2.2.2.2.2.2.2.2.2.1) tb0 tA0 res.2.2.2.2.2.2.2.2.2.2.2.2.2.2.2.2.2.2.2.2.2.2.2.2.2.2 hi0) → gGO Γ 0 0 pc L [.int v] w) {k59 : Int32 → Int32 → Int32 → Int32 → Int32 → Int32 → Int32 → Int32 → (Nat → Int32) → (Nat → Int32) → (Nat → Int32) → (Nat → Int32) → (Nat → Int32) → (Nat → Int32) → (Nat → Int32) → (Nat → Int32) → (Nat → Int32) → Nat → (Nat → Option Nat) → Int32 → (Nat → Int32) → (Nat → Int32) → (Nat → Int32) → (Nat → Int32) → (Nat → Int32) → (Nat → Int32) → Int32 → Int32 → Int32 → Int32 → Option (Int32 × Int32 × Int32 × Int32 × Int32 × Int32 × Int32 × Int32 × Int32 × ((Nat → Int32)) × ((Nat → Int32)) × ((Nat → Int32)) × ((Nat → Int32)) × ((Nat → Int32)) × ((Nat → Int32)) × ((Nat → Int32)) × ((Nat → Int32)) × ((Nat → Int32)) × Nat × ((Nat → Option Nat)) × Int32 × ((Nat → Int32)) × ((Nat → Int32)) × ((Nat → Int32)) × ((Nat → Int32)) × ((Nat → Int32)) × ((Nat → Int32)))} (hk59 : ∀ (w1o0 : Int32) (w1o1 : Int32) (w1o2 : Int32) (w1o3 : Int32) (w1o4 : Int32) (w1o5 : Int32) (w1o6 : Int32) (w1o7 : Int32) (w1a8 : (Nat → Int32)) (w1a9 : (Nat → Int32)) (w1a10 : (Nat → Int32)) (w1a11 : (Nat → Int32)) (w1a12 : (Nat → Int32)) (w1a14 : (Nat → Int32)) (w1a15 : (Nat → Int32)) (w1a16 : (Nat → Int32)) (w1a17 : (Nat → Int32)) (w1h : Nat) (w1c : (Nat → Option Nat)) (gs : Int32) (ga0 : (Nat → Int32)) (ga1 : (Nat → Int32)) (ga2 : (Nat → Int32)) (ga3 : (Nat → Int32)) (ga5 : (Nat → Int32)) (bf : (Nat → Int32)) (x1 : Int32) (x2 : Int32) (x3 : Int32) (x4 : Int32), k59 w1o0 w1o1 w1o2 w1o3 w1o4 w1o5 w1o6 w1o7 w1a8 w1a9 w1a10 w1a11 w1a12 w1a14 w1a15 w1a16 w1a17 w1h w1c gs ga0 ga1 ga2 ga3 ga5 bf x1 x2 x3 x4 = some res → gGO Γ 0 0 59 [(0, .ref (q 5)), (1, .int x1), (2, .int x2), (3, .int x3), (4, .int x4)] [] (cw (g_E Γ) q r (gpl F) o0 A0 C0 h0 (gu (gu (gu (gu (gu (gu (gu (gu o1 0 w1o0) 1 w1o1) 2 w1o2) 3 w1o3) 4 w1o4) 5 w1o5) 6 w1o6) 7 w1o7) (gu (gu (gu (gu (gu (gu (gu (gu (gu A1 8 w1a8) 9 w1a9) 10 w1a10) 11 w1a11) 12 w1a12) 14 w1a14) 15 w1a15) 16 w1a16) 17 w1a17) w1c w1h o2 A2 C2 h2 gs (gu (gu (gu (gu (gu gA 0 ga0) 1 ga1) 2 ga2) 3 ga3) 5 ga5) tb0 tA0 bf hi0)) : ∀ (n : Nat) (w1o0 : Int32) (w1o1 : Int32) (w1o2 : Int32) (w1o3 : Int32) (w1o4 : Int32) (w1o5 : Int32) (w1o6 : Int32) (w1o7 : Int32) (w1a8 : (Nat → Int32)) (w1a9 : (Nat → Int32)) (w1a10 : (Nat → Int32)) (w1a11 : (Nat → Int32)) (w1a12 : (Nat → Int32)) (w1a14 : (Nat → Int32)) (w1a15 : (Nat → Int32)) (w1a16 : (Nat → Int32)) (w1a17 : (Nat → Int32)) (w1h : Nat) (w1c : (Nat → Option Nat)) (gs : Int32) (ga0 : (Nat → Int32)) (ga1 : (Nat → Int32)) (ga2 : (Nat → Int32)) (ga3 : (Nat → Int32)) (ga5 : (Nat → Int32)) (bf : (Nat → Int32)) (x1 : Int32) (x2 : Int32) (x3 : Int32) (x4 : Int32) (x5 : Int32), pX11_swap_72 F k59 (o0 0) (o0 1) (o0 2) (o0 3) (o0 4) (o0 5) (o0 6) (o0 7) (A0 8) (A0 9) (A0 10) (A0 11) (A0 12) (A0 14) (A0 15) (A0 16) (A0 17) h0 C0 n w1o0 w1o1 w1o2 w1o3 w1o4 w1o5 w1o6 w1o7 w1a8 w1a9 w1a10 w1a11 w1a12 w1a14 w1a15 w1a16 w1a17 w1h w1c gs ga0 ga1 ga2 ga3 ga5 bf x1 x2 x3 x4 x5 = some res → gGO Γ 0 0 72 [(0, .ref (q 5)), (1, .int x1), (2, .int x2), (3, .int x3), (4, .int x4), (5, .int x5)] [] (cw (g_E Γ) q r (gpl F) o0 A0 C0 h0 (gu (gu (gu (gu (gu (gu (gu (gu o1 0 w1o0) 1 w1o1) 2 w1o2) 3 w1o3) 4 w1o4) 5 w1o5) 6 w1o6) 7 w1o7) (gu (gu (gu (gu (gu (gu (gu (gu (gu A1 8 w1a8) 9 w1a9) 10 w1a10) 11 w1a11) 12 w1a12) 14 w1a14) 15 w1a15) 16 w1a16) 17 w1a17) w1c w1h o2 A2 C2 h2 gs (gu (gu (gu (gu (gu gA 0 ga0) 1 ga1) 2 ga2) 3 ga3) 5 ga5) tb0 tA0 bf hi0) := by
  intro n
  induction n with
  | zero => intro _ _ _ _ _ _ _ _ _ _ _ _ _ _ _ _ _ _ _ _ _ _ _ _ _ _ _ _ _ _ _ h; cases h
  | succ n ih =>
    intro w1o0 w1o1 w1o2 w1o3 w1o4 w1o5 w1o6 w1o7 w1a8 w1a9 w1a10 w1a11 w1a12 w1a14 w1a15 w1a16 w1a17 w1h w1c gs ga0 ga1 ga2 ga3 ga5 bf x1 x2 x3 x4 x5 h
    simp only [pX11_swap_72] at h
    refine g_iload K dX11_swap_72 5 rfl ?_
    refine g_bipush (v := 10) K dX11_swap_74 (by decide) ?_
    obtain ⟨ht9, hf9⟩ := gi_br h; clear h
    refine g_icmp_ge (tgt := 115) K dX11_swap_76 (by decide) (fun qh => ?_) (fun qh => ?_)
    · have h := ht9 qh; clear ht9 hf9
      refine g_iinc (v := (x4 + 1)) (L' := [(4, .int (x4 + 1)), (0, .ref (q 5)), (1, .int x1), (2, .int x2), (3, .int x3), (5, .int x5)]) K dX11_swap_115 4 rfl rfl (hlt _ (by decide)) rfl ?_
      refine g_goto (tgt := 59) K dX11_swap_118 (by decide) ?_
      refine g_sub (L' := [(0, .ref (q 5)), (1, .int x1), (2, .int x2), (3, .int x3), (4, .int (x4 + 1))]) [1, 2, 3, 4, 0] rfl ?_
      exact hk59 w1o0 w1o1 w1o2 w1o3 w1o4 w1o5 w1o6 w1o7 w1a8 w1a9 w1a10 w1a11 w1a12 w1a14 w1a15 w1a16 w1a17 w1h w1c gs ga0 ga1 ga2 ga3 ga5 bf x1 x2 x3 (x4 + 1) h
    · have h := hf9 qh; clear ht9 hf9
      refine g_aload_n K dX11_swap_79 rfl 0 rfl ?_
      refine g_iload K dX11_swap_80 4 rfl ?_
      refine g_iload K dX11_swap_82 5 rfl ?_
      obtain ⟨z_1, hz_1, h⟩ := gi_bd h
      refine g_callVi (As := [.int x4, .int x5]) (bytes := cX11_bothGain) (maxL := 4) (ret := (some .boolean)) K (ctX11_bothGain hF o0 A0 C0 h0 (gu (gu (gu (gu (gu (gu (gu (gu o1 0 w1o0) 1 w1o1) 2 w1o2) 3 w1o3) 4 w1o4) 5 w1o5) 6 w1o6) 7 w1o7) (gu (gu (gu (gu (gu (gu (gu (gu (gu A1 8 w1a8) 9 w1a9) 10 w1a10) 11 w1a11) 12 w1a12) 14 w1a14) 15 w1a15) 16 w1a16) 17 w1a17) w1c w1h o2 A2 C2 h2 gs (gu (gu (gu (gu (gu gA 0 ga0) 1 ga1) 2 ga2) 3 ga3) 5 ga5) tb0 tA0 bf hi0 x4 x5 (res := z_1) hz_1) gc_V_RX11_188_X11_bothGain rfl qv_X11_bothGain 0 rfl rfl rfl hRm rfl rfl rfl (by decide) (Nat.le_of_ble_eq_true rfl) (by decide) dX11_swap_84 (fun v w hw => ?_)
      obtain ⟨hv9, rfl⟩ := hw; have hv9 := hv9.symm; subst hv9
      refine g_ws (ws' := cw (g_E Γ) q r (gpl F) o0 A0 C0 h0 (gu (gu (gu (gu (gu (gu (gu (gu o1 0 w1o0) 1 w1o1) 2 w1o2) 3 w1o3) 4 w1o4) 5 w1o5) 6 w1o6) 7 w1o7) (gu (gu (gu (gu (gu (gu (gu (gu (gu A1 8 w1a8) 9 w1a9) 10 z_1.2.1) 11 z_1.2.2.1) 12 w1a12) 14 w1a14) 15 w1a15) 16 w1a16) 17 w1a17) w1c w1h o2 A2 C2 h2 z_1.2.2.2.1 (gu (gu (gu (gu (gu gA 0 z_1.2.2.2.2.1) 1 z_1.2.2.2.2.2.1) 2 z_1.2.2.2.2.2.2.1) 3 z_1.2.2.2.2.2.2.2.1) 5 z_1.2.2.2.2.2.2.2.2) tb0 tA0 bf hi0) rfl ?_
      obtain ⟨ht9, hf9⟩ := gi_br h; clear h
      refine g_if_ne (tgt := 93) K dX11_swap_87 (by decide) (fun qh => ?_) (fun qh => ?_)
      · have h := hf9 qh; clear ht9 hf9
        refine g_iload_n K dX11_swap_93 rfl 2 rfl ?_
        obtain ⟨ht9, hf9⟩ := gi_br h; clear h
        refine g_if_ne (tgt := 106) K dX11_swap_94 (by decide) (fun qh => ?_) (fun qh => ?_)
        · have h := hf9 qh; clear ht9 hf9
          refine g_iinc (v := (x2 + 1)) (L' := [(2, .int (x2 + 1)), (0, .ref (q 5)), (1, .int x1), (3, .int x3), (4, .int x4), (5, .int x5)]) K dX11_swap_106 2 rfl rfl (hlt _ (by decide)) rfl ?_
          refine g_iinc (v := (x5 + 1)) (L' := [(5, .int (x5 + 1)), (2, .int (x2 + 1)), (0, .ref (q 5)), (1, .int x1), (3, .int x3), (4, .int x4)]) K dX11_swap_109 5 rfl rfl (hlt _ (by decide)) rfl ?_
          refine g_goto (tgt := 72) K dX11_swap_112 (by decide) ?_
          refine g_sub (L' := [(0, .ref (q 5)), (1, .int x1), (2, .int (x2 + 1)), (3, .int x3), (4, .int x4), (5, .int (x5 + 1))]) [2, 3, 1, 4, 5, 0] rfl ?_
          exact ih w1o0 w1o1 w1o2 w1o3 w1o4 w1o5 w1o6 w1o7 w1a8 w1a9 z_1.2.1 z_1.2.2.1 w1a12 w1a14 w1a15 w1a16 w1a17 w1h w1c z_1.2.2.2.1 z_1.2.2.2.2.1 z_1.2.2.2.2.2.1 z_1.2.2.2.2.2.2.1 z_1.2.2.2.2.2.2.2.1 z_1.2.2.2.2.2.2.2.2 bf x1 (x2 + 1) x3 x4 (x5 + 1) h
        · have h := ht9 qh; clear ht9 hf9
          refine g_bipush (v := 10) K dX11_swap_97 (by decide) ?_
          refine g_iload K dX11_swap_99 4 rfl ?_
          refine g_imul K dX11_swap_101 ?_
          refine g_iload K dX11_swap_102 5 rfl ?_
          refine g_iadd K dX11_swap_104 ?_
          obtain ⟨v_2, ev_2, h⟩ := gi_nm h
          refine g_topi ev_2 ?_
          refine g_istore_n (L' := [(3, .int v_2), (0, .ref (q 5)), (1, .int x1), (2, .int x2), (4, .int x4), (5, .int x5)]) K dX11_swap_105 rfl (hlt _ (by decide)) rfl ?_
          refine g_iinc (v := (x2 + 1)) (L' := [(2, .int (x2 + 1)), (3, .int v_2), (0, .ref (q 5)), (1, .int x1), (4, .int x4), (5, .int x5)]) K dX11_swap_106 3 rfl rfl (hlt _ (by decide)) rfl ?_
          refine g_iinc (v := (x5 + 1)) (L' := [(5, .int (x5 + 1)), (2, .int (x2 + 1)), (3, .int v_2), (0, .ref (q 5)), (1, .int x1), (4, .int x4)]) K dX11_swap_109 5 rfl rfl (hlt _ (by decide)) rfl ?_
          refine g_goto (tgt := 72) K dX11_swap_112 (by decide) ?_
          refine g_sub (L' := [(0, .ref (q 5)), (1, .int x1), (2, .int (x2 + 1)), (3, .int v_2), (4, .int x4), (5, .int (x5 + 1))]) [3, 4, 1, 2, 5, 0] rfl ?_
          exact ih w1o0 w1o1 w1o2 w1o3 w1o4 w1o5 w1o6 w1o7 w1a8 w1a9 z_1.2.1 z_1.2.2.1 w1a12 w1a14 w1a15 w1a16 w1a17 w1h w1c z_1.2.2.2.1 z_1.2.2.2.2.1 z_1.2.2.2.2.2.1 z_1.2.2.2.2.2.2.1 z_1.2.2.2.2.2.2.2.1 z_1.2.2.2.2.2.2.2.2 bf x1 (x2 + 1) v_2 x4 (x5 + 1) h
      · have h := ht9 qh; clear ht9 hf9
        refine g_goto (tgt := 109) K dX11_swap_90 (by decide) ?_
        refine g_iinc (v := (x5 + 1)) (L' := [(5, .int (x5 + 1)), (0, .ref (q 5)), (1, .int x1), (2, .int x2), (3, .int x3), (4, .int x4)]) K dX11_swap_109 5 rfl rfl (hlt _ (by decide)) rfl ?_
        refine g_goto (tgt := 72) K dX11_swap_112 (by decide) ?_
        refine g_sub (L' := [(0, .ref (q 5)), (1, .int x1), (2, .int x2), (3, .int x3), (4, .int x4), (5, .int (x5 + 1))]) [1, 2, 3, 4, 5, 0] rfl ?_
        exact ih w1o0 w1o1 w1o2 w1o3 w1o4 w1o5 w1o6 w1o7 w1a8 w1a9 z_1.2.1 z_1.2.2.1 w1a12 w1a14 w1a15 w1a16 w1a17 w1h w1c z_1.2.2.2.1 z_1.2.2.2.2.1 z_1.2.2.2.2.2.1 z_1.2.2.2.2.2.2.1 z_1.2.2.2.2.2.2.2.1 z_1.2.2.2.2.2.2.2.2 bf x1 x2 x3 x4 (x5 + 1) h

set_option maxHeartbeats 4000000 in
set_option maxRecDepth 100000 in
theorem wX11_swap_59 {Γ : gT} {q : Nat → Nat} {r : Nat → Nat → Nat} {F : gF} (hF : gFz (g_E Γ) F) {o0 : Nat → Int32} {A0 : Nat → Nat → Int32} {C0 : Nat → Option Nat} {h0 : Nat} {o1 : Nat → Int32} {A1 : Nat → Nat → Int32} {C1 : Nat → Option Nat} {h1 : Nat} {o2 : Nat → Int32} {A2 : Nat → Nat → Int32} {C2 : Nat → Option Nat} {h2 : Nat} {gs0 : Int32} {gA : Nat → Nat → Int32} {tb0 : Int32} {tA0 bf0 : Nat → Int32} {hi0 : Int32} (K : gOK Γ cX11_swap gU RX11) (hlt : ∀ i, i < 6 → i < g_n Γ) (hRm : g_R Γ = ({ frames := 11, cells := 0, slots := 0, locals := 306 } : Room)) {res : Int32 × Int32 × Int32 × Int32 × Int32 × Int32 × Int32 × Int32 × Int32 × ((Nat → Int32)) × ((Nat → Int32)) × ((Nat → Int32)) × ((Nat → Int32)) × ((Nat → Int32)) × ((Nat → Int32)) × ((Nat → Int32)) × ((Nat → Int32)) × ((Nat → Int32)) × Nat × ((Nat → Option Nat)) × Int32 × ((Nat → Int32)) × ((Nat → Int32)) × ((Nat → Int32)) × ((Nat → Int32)) × ((Nat → Int32)) × ((Nat → Int32))} (hret : ∀ (pc : Nat) (L : List (Nat × Value)) (v : Int32) (w : va_W), decode cX11_swap pc = .ok (.ireturn, 1) → narrow .int (.int v) = .int v → (v = res.1 ∧ w = cw (g_E Γ) q r (gpl F) o0 A0 C0 h0 (gu (gu (gu (gu (gu (gu (gu (gu o1 0 res.2.1) 1 res.2.2.1) 2 res.2.2.2.1) 3 res.2.2.2.2.1) 4 res.2.2.2.2.2.1) 5 res.2.2.2.2.2.2.1) 6 res.2.2.2.2.2.2.2.1) 7 res.2.2.2.2.2.2.2.2.1) (gu (gu (gu (gu (gu (gu (gu (gu (gu A1 8 res.2.2.2.2.2.2.2.2.2.1) 9 res.2.2.2.2.2.2.2.2.2.2.1) 10 res.2.2.2.2.2.2.2.2.2.2.2.1) 11 res.2.2.2.2.2.2.2.2.2.2.2.2.1) 12 res.2.2.2.2.2.2.2.2.2.2.2.2.2.1) 14 res.2.2.2.2.2.2.2.2.2.2.2.2.2.2.1) 15 res.2.2.2.2.2.2.2.2.2.2.2.2.2.2.2.1) 16 res.2.2.2.2.2.2.2.2.2.2.2.2.2.2.2.2.1) 17 res.2.2.2.2.2.2.2.2.2.2.2.2.2.2.2.2.2.1) res.2.2.2.2.2.2.2.2.2.2.2.2.2.2.2.2.2.2.2.1 res.2.2.2.2.2.2.2.2.2.2.2.2.2.2.2.2.2.2.1 o2 A2 C2 h2 res.2.2.2.2.2.2.2.2.2.2.2.2.2.2.2.2.2.2.2.2.1 (gu (gu (gu (gu (gu gA 0 res.2.2.2.2.2.2.2.2.2.2.2.2.2.2.2.2.2.2.2.2.2.1) 1 res.2.2.2.2.2.2.2.2.2.2.2.2.2.2.2.2.2.2.2.2.2.2.1) 2 res.2.2.2.2.2.2.2.2.2.2.2.2.2.2.2.2.2.2.2.2.2.2.2.1) 3 res.2.2.2.2.2.2.2.2.2.2.2.2.2.2.2.2.2.2.2.2.2.2.2.2.1) 5 res.2.2.2.2.2.2.2.2.2.2.2.2.2.2.2.2.2.2.2.2.2.2.2.2.2.1) tb0 tA0 res.2.2.2.2.2.2.2.2.2.2.2.2.2.2.2.2.2.2.2.2.2.2.2.2.2.2 hi0) → gGO Γ 0 0 pc L [.int v] w) : ∀ (n : Nat) (w1o0 : Int32) (w1o1 : Int32) (w1o2 : Int32) (w1o3 : Int32) (w1o4 : Int32) (w1o5 : Int32) (w1o6 : Int32) (w1o7 : Int32) (w1a8 : (Nat → Int32)) (w1a9 : (Nat → Int32)) (w1a10 : (Nat → Int32)) (w1a11 : (Nat → Int32)) (w1a12 : (Nat → Int32)) (w1a14 : (Nat → Int32)) (w1a15 : (Nat → Int32)) (w1a16 : (Nat → Int32)) (w1a17 : (Nat → Int32)) (w1h : Nat) (w1c : (Nat → Option Nat)) (gs : Int32) (ga0 : (Nat → Int32)) (ga1 : (Nat → Int32)) (ga2 : (Nat → Int32)) (ga3 : (Nat → Int32)) (ga5 : (Nat → Int32)) (bf : (Nat → Int32)) (x1 : Int32) (x2 : Int32) (x3 : Int32) (x4 : Int32), pX11_swap_59 F (o0 0) (o0 1) (o0 2) (o0 3) (o0 4) (o0 5) (o0 6) (o0 7) (A0 8) (A0 9) (A0 10) (A0 11) (A0 12) (A0 14) (A0 15) (A0 16) (A0 17) h0 C0 n w1o0 w1o1 w1o2 w1o3 w1o4 w1o5 w1o6 w1o7 w1a8 w1a9 w1a10 w1a11 w1a12 w1a14 w1a15 w1a16 w1a17 w1h w1c gs ga0 ga1 ga2 ga3 ga5 bf x1 x2 x3 x4 = some res → gGO Γ 0 0 59 [(0, .ref (q 5)), (1, .int x1), (2, .int x2), (3, .int x3), (4, .int x4)] [] (cw (g_E Γ) q r (gpl F) o0 A0 C0 h0 (gu (gu (gu (gu (gu (gu (gu (gu o1 0 w1o0) 1 w1o1) 2 w1o2) 3 w1o3) 4 w1o4) 5 w1o5) 6 w1o6) 7 w1o7) (gu (gu (gu (gu (gu (gu (gu (gu (gu A1 8 w1a8) 9 w1a9) 10 w1a10) 11 w1a11) 12 w1a12) 14 w1a14) 15 w1a15) 16 w1a16) 17 w1a17) w1c w1h o2 A2 C2 h2 gs (gu (gu (gu (gu (gu gA 0 ga0) 1 ga1) 2 ga2) 3 ga3) 5 ga5) tb0 tA0 bf hi0) := by
  intro n
  induction n with
  | zero => intro _ _ _ _ _ _ _ _ _ _ _ _ _ _ _ _ _ _ _ _ _ _ _ _ _ _ _ _ _ _ h; cases h
  | succ n ih =>
    intro w1o0 w1o1 w1o2 w1o3 w1o4 w1o5 w1o6 w1o7 w1a8 w1a9 w1a10 w1a11 w1a12 w1a14 w1a15 w1a16 w1a17 w1h w1c gs ga0 ga1 ga2 ga3 ga5 bf x1 x2 x3 x4 h
    simp only [pX11_swap_59] at h
    refine g_iload K dX11_swap_59 4 rfl ?_
    refine g_bipush (v := 10) K dX11_swap_61 (by decide) ?_
    obtain ⟨ht9, hf9⟩ := gi_br h; clear h
    refine g_icmp_ge (tgt := 121) K dX11_swap_63 (by decide) (fun qh => ?_) (fun qh => ?_)
    · have h := ht9 qh; clear ht9 hf9
      refine g_iload_n K dX11_swap_121 rfl 1 rfl ?_
      obtain ⟨ht9, hf9⟩ := gi_br h; clear h
      refine g_if_ne (tgt := 129) K dX11_swap_122 (by decide) (fun qh => ?_) (fun qh => ?_)
      · have h := hf9 qh; clear ht9 hf9
        refine g_iload_n K dX11_swap_129 rfl 3 rfl ?_
        obtain rfl := Option.some.inj h
        exact hret _ _ _ _ dX11_swap_130 rfl ⟨rfl, rfl⟩
      · have h := ht9 qh; clear ht9 hf9
        refine g_iload_n K dX11_swap_125 rfl 2 rfl ?_
        refine g_goto (tgt := 130) K dX11_swap_126 (by decide) ?_
        obtain rfl := Option.some.inj h
        exact hret _ _ _ _ dX11_swap_130 rfl ⟨rfl, rfl⟩
    · have h := hf9 qh; clear ht9 hf9
      refine g_iload K dX11_swap_66 4 rfl ?_
      refine g_iconst (v := 1) K dX11_swap_68 (by decide) ?_
      refine g_iadd K dX11_swap_69 ?_
      obtain ⟨v_1, ev_1, h⟩ := gi_nm h
      refine g_topi ev_1 ?_
      refine g_istore (L' := [(5, .int v_1), (0, .ref (q 5)), (1, .int x1), (2, .int x2), (3, .int x3), (4, .int x4)]) K dX11_swap_70 (hlt _ (by decide)) rfl ?_
      refine g_sub (L' := [(0, .ref (q 5)), (1, .int x1), (2, .int x2), (3, .int x3), (4, .int x4), (5, .int v_1)]) [1, 2, 3, 4, 5, 0] rfl ?_
      exact wX11_swap_72 (C0 := C0) (h0 := h0) (C1 := C1) (h1 := h1) (C2 := C2) (h2 := h2) (gs0 := gs0) (tb0 := tb0) (tA0 := tA0) (bf0 := bf0) (hi0 := hi0) hF K hlt hRm hret ih 1000 w1o0 w1o1 w1o2 w1o3 w1o4 w1o5 w1o6 w1o7 w1a8 w1a9 w1a10 w1a11 w1a12 w1a14 w1a15 w1a16 w1a17 w1h w1c gs ga0 ga1 ga2 ga3 ga5 bf x1 x2 x3 x4 v_1 h

set_option maxHeartbeats 4000000 in
set_option maxRecDepth 100000 in
theorem wX11_swap {Γ : gT} {q : Nat → Nat} {r : Nat → Nat → Nat} {F : gF} (hF : gFz (g_E Γ) F) {o0 : Nat → Int32} {A0 : Nat → Nat → Int32} {C0 : Nat → Option Nat} {h0 : Nat} {o1 : Nat → Int32} {A1 : Nat → Nat → Int32} {C1 : Nat → Option Nat} {h1 : Nat} {o2 : Nat → Int32} {A2 : Nat → Nat → Int32} {C2 : Nat → Option Nat} {h2 : Nat} {gs0 : Int32} {gA : Nat → Nat → Int32} {tb0 : Int32} {tA0 bf0 : Nat → Int32} {hi0 : Int32} (K : gOK Γ cX11_swap gU RX11) (hlt : ∀ i, i < 6 → i < g_n Γ) (hRm : g_R Γ = ({ frames := 11, cells := 0, slots := 0, locals := 306 } : Room)) {res : Int32 × Int32 × Int32 × Int32 × Int32 × Int32 × Int32 × Int32 × Int32 × ((Nat → Int32)) × ((Nat → Int32)) × ((Nat → Int32)) × ((Nat → Int32)) × ((Nat → Int32)) × ((Nat → Int32)) × ((Nat → Int32)) × ((Nat → Int32)) × ((Nat → Int32)) × Nat × ((Nat → Option Nat)) × Int32 × ((Nat → Int32)) × ((Nat → Int32)) × ((Nat → Int32)) × ((Nat → Int32)) × ((Nat → Int32)) × ((Nat → Int32))} (hret : ∀ (pc : Nat) (L : List (Nat × Value)) (v : Int32) (w : va_W), decode cX11_swap pc = .ok (.ireturn, 1) → narrow .int (.int v) = .int v → (v = res.1 ∧ w = cw (g_E Γ) q r (gpl F) o0 A0 C0 h0 (gu (gu (gu (gu (gu (gu (gu (gu o1 0 res.2.1) 1 res.2.2.1) 2 res.2.2.2.1) 3 res.2.2.2.2.1) 4 res.2.2.2.2.2.1) 5 res.2.2.2.2.2.2.1) 6 res.2.2.2.2.2.2.2.1) 7 res.2.2.2.2.2.2.2.2.1) (gu (gu (gu (gu (gu (gu (gu (gu (gu A1 8 res.2.2.2.2.2.2.2.2.2.1) 9 res.2.2.2.2.2.2.2.2.2.2.1) 10 res.2.2.2.2.2.2.2.2.2.2.2.1) 11 res.2.2.2.2.2.2.2.2.2.2.2.2.1) 12 res.2.2.2.2.2.2.2.2.2.2.2.2.2.1) 14 res.2.2.2.2.2.2.2.2.2.2.2.2.2.2.1) 15 res.2.2.2.2.2.2.2.2.2.2.2.2.2.2.2.1) 16 res.2.2.2.2.2.2.2.2.2.2.2.2.2.2.2.2.1) 17 res.2.2.2.2.2.2.2.2.2.2.2.2.2.2.2.2.2.1) res.2.2.2.2.2.2.2.2.2.2.2.2.2.2.2.2.2.2.2.1 res.2.2.2.2.2.2.2.2.2.2.2.2.2.2.2.2.2.2.1 o2 A2 C2 h2 res.2.2.2.2.2.2.2.2.2.2.2.2.2.2.2.2.2.2.2.2.1 (gu (gu (gu (gu (gu gA 0 res.2.2.2.2.2.2.2.2.2.2.2.2.2.2.2.2.2.2.2.2.2.1) 1 res.2.2.2.2.2.2.2.2.2.2.2.2.2.2.2.2.2.2.2.2.2.2.1) 2 res.2.2.2.2.2.2.2.2.2.2.2.2.2.2.2.2.2.2.2.2.2.2.2.1) 3 res.2.2.2.2.2.2.2.2.2.2.2.2.2.2.2.2.2.2.2.2.2.2.2.2.1) 5 res.2.2.2.2.2.2.2.2.2.2.2.2.2.2.2.2.2.2.2.2.2.2.2.2.2.1) tb0 tA0 res.2.2.2.2.2.2.2.2.2.2.2.2.2.2.2.2.2.2.2.2.2.2.2.2.2.2 hi0) → gGO Γ 0 0 pc L [.int v] w) (w1o0 : Int32) (w1o1 : Int32) (w1o2 : Int32) (w1o3 : Int32) (w1o4 : Int32) (w1o5 : Int32) (w1o6 : Int32) (w1o7 : Int32) (w1a8 : (Nat → Int32)) (w1a9 : (Nat → Int32)) (w1a10 : (Nat → Int32)) (w1a11 : (Nat → Int32)) (w1a12 : (Nat → Int32)) (w1a14 : (Nat → Int32)) (w1a15 : (Nat → Int32)) (w1a16 : (Nat → Int32)) (w1a17 : (Nat → Int32)) (w1h : Nat) (w1c : (Nat → Option Nat)) (gs : Int32) (ga0 : (Nat → Int32)) (ga1 : (Nat → Int32)) (ga2 : (Nat → Int32)) (ga3 : (Nat → Int32)) (ga5 : (Nat → Int32)) (bf : (Nat → Int32)) (x1 : Int32) (h : pX11_swap F (o0 0) (o0 1) (o0 2) (o0 3) (o0 4) (o0 5) (o0 6) (o0 7) (A0 8) (A0 9) (A0 10) (A0 11) (A0 12) (A0 14) (A0 15) (A0 16) (A0 17) h0 C0 w1o0 w1o1 w1o2 w1o3 w1o4 w1o5 w1o6 w1o7 w1a8 w1a9 w1a10 w1a11 w1a12 w1a14 w1a15 w1a16 w1a17 w1h w1c gs ga0 ga1 ga2 ga3 ga5 bf x1 = some res) : gGO Γ 0 0 0 [(0, .ref (q 5)), (1, .int x1)] [] (cw (g_E Γ) q r (gpl F) o0 A0 C0 h0 (gu (gu (gu (gu (gu (gu (gu (gu o1 0 w1o0) 1 w1o1) 2 w1o2) 3 w1o3) 4 w1o4) 5 w1o5) 6 w1o6) 7 w1o7) (gu (gu (gu (gu (gu (gu (gu (gu (gu A1 8 w1a8) 9 w1a9) 10 w1a10) 11 w1a11) 12 w1a12) 14 w1a14) 15 w1a15) 16 w1a16) 17 w1a17) w1c w1h o2 A2 C2 h2 gs (gu (gu (gu (gu (gu gA 0 ga0) 1 ga1) 2 ga2) 3 ga3) 5 ga5) tb0 tA0 bf hi0) := by
    unfold pX11_swap at h
    refine g_iload_n K dX11_swap_0 rfl 1 rfl ?_
    obtain ⟨ht9, hf9⟩ := gi_br h; clear h
    refine g_if_lt (tgt := 9) K dX11_swap_1 (by decide) (fun qh => ?_) (fun qh => ?_)
    · have h := ht9 qh; clear ht9 hf9
      refine g_iconst (v := (-1)) K dX11_swap_9 (by decide) ?_
      obtain rfl := Option.some.inj h
      exact hret _ _ _ _ dX11_swap_10 rfl ⟨rfl, rfl⟩
    · have h := hf9 qh; clear ht9 hf9
      refine g_iload_n K dX11_swap_4 rfl 1 rfl ?_
      refine g_iconst (v := 1) K dX11_swap_5 (by decide) ?_
      obtain ⟨ht9, hf9⟩ := gi_br h; clear h
      refine g_icmp_le (tgt := 11) K dX11_swap_6 (by decide) (fun qh => ?_) (fun qh => ?_)
      · have h := ht9 qh; clear ht9 hf9
        refine g_aload_n K dX11_swap_11 rfl 0 rfl ?_
        refine g_get (v := .ref (q 3)) (T := TX11) (ref := "ChiefGrades") K hin_X11 0 rfl rfl 3 (by decide) u_327 (Or.inl rfl) rfl dX11_swap_12 ?_
        refine g_aload_n K dX11_swap_15 rfl 0 rfl ?_
        refine g_get (v := .ref (q 0)) (T := TX11) (ref := "ChiefGrades") K hin_X11 0 rfl rfl 0 (by decide) u_324 (Or.inl rfl) rfl dX11_swap_16 ?_
        obtain ⟨z_1, hz_1, h⟩ := gi_bd h
        refine g_callVv (As := [.ref (q 0)]) (bytes := cX1_gradeAll) (maxL := 4) (ret := none) K (ctX1_gradeAll_w0 hF o0 A0 C0 h0 (gu (gu (gu (gu (gu (gu (gu (gu o1 0 w1o0) 1 w1o1) 2 w1o2) 3 w1o3) 4 w1o4) 5 w1o5) 6 w1o6) 7 w1o7) (gu (gu (gu (gu (gu (gu (gu (gu (gu A1 8 w1a8) 9 w1a9) 10 w1a10) 11 w1a11) 12 w1a12) 14 w1a14) 15 w1a15) 16 w1a16) 17 w1a17) w1c w1h o2 A2 C2 h2 gs (gu (gu (gu (gu (gu gA 0 ga0) 1 ga1) 2 ga2) 3 ga3) 5 ga5) tb0 tA0 bf hi0 (res := z_1) hz_1) gc_V_RX11_171_X1_gradeAll rfl qv_X1_gradeAll 4 rfl rfl rfl hRm rfl rfl rfl (by decide) (Nat.le_of_ble_eq_true rfl) (by decide) dX11_swap_19 (fun w hw => ?_)
        subst hw
        refine g_ws (ws' := cw (g_E Γ) q r (gpl F) o0 A0 C0 h0 (gu (gu (gu (gu (gu (gu (gu (gu o1 0 w1o0) 1 w1o1) 2 w1o2) 3 w1o3) 4 w1o4) 5 w1o5) 6 w1o6) 7 w1o7) (gu (gu (gu (gu (gu (gu (gu (gu (gu A1 8 w1a8) 9 w1a9) 10 w1a10) 11 w1a11) 12 w1a12) 14 w1a14) 15 w1a15) 16 w1a16) 17 w1a17) w1c w1h o2 A2 C2 h2 z_1.1 (gu (gu (gu (gu (gu gA 0 z_1.2.1) 1 z_1.2.2.1) 2 z_1.2.2.2.1) 3 z_1.2.2.2.2.1) 5 z_1.2.2.2.2.2) tb0 tA0 bf hi0) rfl ?_
        refine g_aload_n K dX11_swap_22 rfl 0 rfl ?_
        refine g_get (v := .ref (q 3)) (T := TX11) (ref := "ChiefGrades") K hin_X11 0 rfl rfl 3 (by decide) u_327 (Or.inl rfl) rfl dX11_swap_23 ?_
        refine g_get (v := .ref (r 3 0)) (T := TX1) (ref := "ChiefGrades$Grader") K hin_X1 4 rfl rfl 0 (by decide) u_287 (Or.inl rfl) rfl dX11_swap_26 ?_
        refine g_iconst (v := 0) K dX11_swap_29 (by decide) ?_
        refine g_aload_n K dX11_swap_30 rfl 0 rfl ?_
        refine g_get (v := .ref (r 5 5)) (T := TX11) (ref := "ChiefGrades") K hin_X11 0 rfl rfl 5 (by decide) u_329 (Or.inl rfl) rfl dX11_swap_31 ?_
        refine g_iconst (v := 0) K dX11_swap_34 (by decide) ?_
        refine g_bipush (v := 10) K dX11_swap_35 (by decide) ?_
        obtain ⟨f_2, ef_2, h⟩ := gi_nm h
        refine g_copy (f := z_1.2.1) (g := bf) (n := 10) (ws' := cw (g_E Γ) q r (gpl F) o0 A0 C0 h0 (gu (gu (gu (gu (gu (gu (gu (gu o1 0 w1o0) 1 w1o1) 2 w1o2) 3 w1o3) 4 w1o4) 5 w1o5) 6 w1o6) 7 w1o7) (gu (gu (gu (gu (gu (gu (gu (gu (gu A1 8 w1a8) 9 w1a9) 10 w1a10) 11 w1a11) 12 w1a12) 14 w1a14) 15 w1a15) 16 w1a16) 17 w1a17) w1c w1h o2 A2 C2 h2 z_1.1 (gu (gu (gu (gu (gu gA 0 z_1.2.1) 1 z_1.2.2.1) 2 z_1.2.2.2.1) 3 z_1.2.2.2.2.1) 5 z_1.2.2.2.2.2) tb0 tA0 f_2 hi0) K 36 42 rfl rfl 0 rfl rfl (by decide) (by decide) (by decide) (by decide) (fun _ _ => rfl) u_746 u_748 u_747 u_88 hRm ⟨by decide, Nat.le_of_ble_eq_true rfl⟩ dX11_swap_37 (by rw [ef_2]; rfl) ?_
        refine g_aload_n K dX11_swap_40 rfl 0 rfl ?_
        refine g_get (v := .ref (q 1)) (T := TX11) (ref := "ChiefGrades") K hin_X11 0 rfl rfl 1 (by decide) u_325 (Or.inl rfl) rfl dX11_swap_41 ?_
        refine g_aload_n K dX11_swap_44 rfl 0 rfl ?_
        refine g_get (v := .ref (q 0)) (T := TX11) (ref := "ChiefGrades") K hin_X11 0 rfl rfl 0 (by decide) u_324 (Or.inl rfl) rfl dX11_swap_45 ?_
        obtain ⟨z_3, hz_3, h⟩ := gi_bd h
        refine g_callVv (As := [.ref (q 0)]) (bytes := cX10_become) (maxL := 3) (ret := none) K (ctX10_become_w1_w0 hF o0 A0 C0 h0 (gu (gu (gu (gu (gu (gu (gu (gu o1 0 w1o0) 1 w1o1) 2 w1o2) 3 w1o3) 4 w1o4) 5 w1o5) 6 w1o6) 7 w1o7) (gu (gu (gu (gu (gu (gu (gu (gu (gu A1 8 w1a8) 9 w1a9) 10 w1a10) 11 w1a11) 12 w1a12) 14 w1a14) 15 w1a15) 16 w1a16) 17 w1a17) w1c w1h o2 A2 C2 h2 z_1.1 (gu (gu (gu (gu (gu gA 0 z_1.2.1) 1 z_1.2.2.1) 2 z_1.2.2.2.1) 3 z_1.2.2.2.2.1) 5 z_1.2.2.2.2.2) tb0 tA0 f_2 hi0 (res := z_3) hz_3) gc_V_RX11_185_X10_become rfl qv_X10_become 2 rfl rfl rfl hRm rfl rfl rfl (by decide) (Nat.le_of_ble_eq_true rfl) (by decide) dX11_swap_48 (fun w hw => ?_)
        subst hw
        refine g_ws (ws' := cw (g_E Γ) q r (gpl F) o0 A0 C0 h0 (gu (gu (gu (gu (gu (gu (gu (gu o1 0 z_3.1) 1 z_3.2.1) 2 z_3.2.2.1) 3 z_3.2.2.2.1) 4 z_3.2.2.2.2.1) 5 z_3.2.2.2.2.2.1) 6 z_3.2.2.2.2.2.2.1) 7 z_3.2.2.2.2.2.2.2.1) (gu (gu (gu (gu (gu (gu (gu (gu (gu A1 8 z_3.2.2.2.2.2.2.2.2.1) 9 z_3.2.2.2.2.2.2.2.2.2.1) 10 z_3.2.2.2.2.2.2.2.2.2.2.1) 11 z_3.2.2.2.2.2.2.2.2.2.2.2.1) 12 z_3.2.2.2.2.2.2.2.2.2.2.2.2.1) 14 z_3.2.2.2.2.2.2.2.2.2.2.2.2.2.1) 15 z_3.2.2.2.2.2.2.2.2.2.2.2.2.2.2.1) 16 z_3.2.2.2.2.2.2.2.2.2.2.2.2.2.2.2.1) 17 z_3.2.2.2.2.2.2.2.2.2.2.2.2.2.2.2.2.1) z_3.2.2.2.2.2.2.2.2.2.2.2.2.2.2.2.2.2.2 z_3.2.2.2.2.2.2.2.2.2.2.2.2.2.2.2.2.2.1 o2 A2 C2 h2 z_1.1 (gu (gu (gu (gu (gu gA 0 z_1.2.1) 1 z_1.2.2.1) 2 z_1.2.2.2.1) 3 z_1.2.2.2.2.1) 5 z_1.2.2.2.2.2) tb0 tA0 f_2 hi0) rfl ?_
        refine g_iconst (v := 0) K dX11_swap_51 (by decide) ?_
        refine g_istore_n (L' := [(2, .int 0), (0, .ref (q 5)), (1, .int x1)]) K dX11_swap_52 rfl (hlt _ (by decide)) rfl ?_
        refine g_bipush (v := (-5)) K dX11_swap_53 (by decide) ?_
        refine g_istore_n (L' := [(3, .int (-5)), (2, .int 0), (0, .ref (q 5)), (1, .int x1)]) K dX11_swap_55 rfl (hlt _ (by decide)) rfl ?_
        refine g_iconst (v := 0) K dX11_swap_56 (by decide) ?_
        refine g_istore (L' := [(4, .int 0), (3, .int (-5)), (2, .int 0), (0, .ref (q 5)), (1, .int x1)]) K dX11_swap_57 (hlt _ (by decide)) rfl ?_
        refine g_sub (L' := [(0, .ref (q 5)), (1, .int x1), (2, .int 0), (3, .int (-5)), (4, .int 0)]) [3, 4, 2, 1, 0] rfl ?_
        exact wX11_swap_59 (C0 := C0) (h0 := h0) (C1 := C1) (h1 := h1) (C2 := C2) (h2 := h2) (gs0 := gs0) (tb0 := tb0) (tA0 := tA0) (bf0 := bf0) (hi0 := hi0) hF K hlt hRm hret 1000 z_3.1 z_3.2.1 z_3.2.2.1 z_3.2.2.2.1 z_3.2.2.2.2.1 z_3.2.2.2.2.2.1 z_3.2.2.2.2.2.2.1 z_3.2.2.2.2.2.2.2.1 z_3.2.2.2.2.2.2.2.2.1 z_3.2.2.2.2.2.2.2.2.2.1 z_3.2.2.2.2.2.2.2.2.2.2.1 z_3.2.2.2.2.2.2.2.2.2.2.2.1 z_3.2.2.2.2.2.2.2.2.2.2.2.2.1 z_3.2.2.2.2.2.2.2.2.2.2.2.2.2.1 z_3.2.2.2.2.2.2.2.2.2.2.2.2.2.2.1 z_3.2.2.2.2.2.2.2.2.2.2.2.2.2.2.2.1 z_3.2.2.2.2.2.2.2.2.2.2.2.2.2.2.2.2.1 z_3.2.2.2.2.2.2.2.2.2.2.2.2.2.2.2.2.2.1 z_3.2.2.2.2.2.2.2.2.2.2.2.2.2.2.2.2.2.2 z_1.1 z_1.2.1 z_1.2.2.1 z_1.2.2.2.1 z_1.2.2.2.2.1 z_1.2.2.2.2.2 f_2 x1 0 (-5) 0 h
      · have h := hf9 qh; clear ht9 hf9
        refine g_iconst (v := (-1)) K dX11_swap_9 (by decide) ?_
        obtain rfl := Option.some.inj h
        exact hret _ _ _ _ dX11_swap_10 rfl ⟨rfl, rfl⟩

set_option maxRecDepth 100000 in
theorem ctX11_swap {E : gE} {q : Nat → Nat} {r : Nat → Nat → Nat} {F : gF} (hF : gFz E F) (o0 : Nat → Int32) (A0 : Nat → Nat → Int32) (C0 : Nat → Option Nat) (h0 : Nat) (o1 : Nat → Int32) (A1 : Nat → Nat → Int32) (C1 : Nat → Option Nat) (h1 : Nat) (o2 : Nat → Int32) (A2 : Nat → Nat → Int32) (C2 : Nat → Option Nat) (h2 : Nat) (gs0 : Int32) (gA : Nat → Nat → Int32) (tb0 : Int32) (tA0 bf0 : Nat → Int32) (hi0 : Int32) (x1 : Int32) {res : Int32 × Int32 × Int32 × Int32 × Int32 × Int32 × Int32 × Int32 × Int32 × ((Nat → Int32)) × ((Nat → Int32)) × ((Nat → Int32)) × ((Nat → Int32)) × ((Nat → Int32)) × ((Nat → Int32)) × ((Nat → Int32)) × ((Nat → Int32)) × ((Nat → Int32)) × Nat × ((Nat → Option Nat)) × Int32 × ((Nat → Int32)) × ((Nat → Int32)) × ((Nat → Int32)) × ((Nat → Int32)) × ((Nat → Int32)) × ((Nat → Int32))} (h : pX11_swap F (o0 0) (o0 1) (o0 2) (o0 3) (o0 4) (o0 5) (o0 6) (o0 7) (A0 8) (A0 9) (A0 10) (A0 11) (A0 12) (A0 14) (A0 15) (A0 16) (A0 17) h0 C0 (o1 0) (o1 1) (o1 2) (o1 3) (o1 4) (o1 5) (o1 6) (o1 7) (A1 8) (A1 9) (A1 10) (A1 11) (A1 12) (A1 14) (A1 15) (A1 16) (A1 17) h1 C1 gs0 (gA 0) (gA 1) (gA 2) (gA 3) (gA 5) bf0 x1 = some res) : gMi yX11_swap (.code yX11_swap cX11_swap 6 (some .int) :: gU) ({ frames := 11, cells := 0, slots := 0, locals := 306 } : Room) 0 0 E [.ref (q 5), .int x1] (cw E q r (gpl F) o0 A0 C0 h0 o1 A1 C1 h1 o2 A2 C2 h2 gs0 gA tb0 tA0 bf0 hi0) (fun v w => v = res.1 ∧ w = cw E q r (gpl F) o0 A0 C0 h0 (gu (gu (gu (gu (gu (gu (gu (gu o1 0 res.2.1) 1 res.2.2.1) 2 res.2.2.2.1) 3 res.2.2.2.2.1) 4 res.2.2.2.2.2.1) 5 res.2.2.2.2.2.2.1) 6 res.2.2.2.2.2.2.2.1) 7 res.2.2.2.2.2.2.2.2.1) (gu (gu (gu (gu (gu (gu (gu (gu (gu A1 8 res.2.2.2.2.2.2.2.2.2.1) 9 res.2.2.2.2.2.2.2.2.2.2.1) 10 res.2.2.2.2.2.2.2.2.2.2.2.1) 11 res.2.2.2.2.2.2.2.2.2.2.2.2.1) 12 res.2.2.2.2.2.2.2.2.2.2.2.2.2.1) 14 res.2.2.2.2.2.2.2.2.2.2.2.2.2.2.1) 15 res.2.2.2.2.2.2.2.2.2.2.2.2.2.2.2.1) 16 res.2.2.2.2.2.2.2.2.2.2.2.2.2.2.2.2.1) 17 res.2.2.2.2.2.2.2.2.2.2.2.2.2.2.2.2.2.1) res.2.2.2.2.2.2.2.2.2.2.2.2.2.2.2.2.2.2.2.1 res.2.2.2.2.2.2.2.2.2.2.2.2.2.2.2.2.2.2.1 o2 A2 C2 h2 res.2.2.2.2.2.2.2.2.2.2.2.2.2.2.2.2.2.2.2.2.1 (gu (gu (gu (gu (gu gA 0 res.2.2.2.2.2.2.2.2.2.2.2.2.2.2.2.2.2.2.2.2.2.1) 1 res.2.2.2.2.2.2.2.2.2.2.2.2.2.2.2.2.2.2.2.2.2.2.1) 2 res.2.2.2.2.2.2.2.2.2.2.2.2.2.2.2.2.2.2.2.2.2.2.2.1) 3 res.2.2.2.2.2.2.2.2.2.2.2.2.2.2.2.2.2.2.2.2.2.2.2.2.1) 5 res.2.2.2.2.2.2.2.2.2.2.2.2.2.2.2.2.2.2.2.2.2.2.2.2.2.1) tb0 tA0 res.2.2.2.2.2.2.2.2.2.2.2.2.2.2.2.2.2.2.2.2.2.2.2.2.2.2 hi0) := by
  refine g_met_i (by decide +kernel) (Nat.le_of_ble_eq_true rfl) (fun Γ K hn hE hRm _ hret => ?_)
  subst hE
  have hlt : ∀ i, i < 6 → i < g_n Γ := fun i q => by rw [hn]; exact q
  refine g_ws (ws' := cw (g_E Γ) q r (gpl F) o0 A0 C0 h0 (gu (gu (gu (gu (gu (gu (gu (gu o1 0 (o1 0)) 1 (o1 1)) 2 (o1 2)) 3 (o1 3)) 4 (o1 4)) 5 (o1 5)) 6 (o1 6)) 7 (o1 7)) (gu (gu (gu (gu (gu (gu (gu (gu (gu A1 8 (A1 8)) 9 (A1 9)) 10 (A1 10)) 11 (A1 11)) 12 (A1 12)) 14 (A1 14)) 15 (A1 15)) 16 (A1 16)) 17 (A1 17)) C1 h1 o2 A2 C2 h2 gs0 (gu (gu (gu (gu (gu gA 0 (gA 0)) 1 (gA 1)) 2 (gA 2)) 3 (gA 3)) 5 (gA 5)) tb0 tA0 bf0 hi0) rfl ?_
  refine g_sub (L' := [(0, .ref (q 5)), (1, .int x1)]) [0, 1] rfl ?_
  exact wX11_swap (C0 := C0) (h0 := h0) (C1 := C1) (h1 := h1) (C2 := C2) (h2 := h2) (gs0 := gs0) (tb0 := tb0) (tA0 := tA0) (bf0 := bf0) (hi0 := hi0) hF K hlt hRm hret (o1 0) (o1 1) (o1 2) (o1 3) (o1 4) (o1 5) (o1 6) (o1 7) (A1 8) (A1 9) (A1 10) (A1 11) (A1 12) (A1 14) (A1 15) (A1 16) (A1 17) h1 C1 gs0 (gA 0) (gA 1) (gA 2) (gA 3) (gA 5) bf0 x1 h

set_option maxHeartbeats 4000000 in
set_option maxRecDepth 100000 in
theorem wX10_replace_w0 {Γ : gT} {q : Nat → Nat} {r : Nat → Nat → Nat} {F : gF} (hF : gFz (g_E Γ) F) {o0 : Nat → Int32} {A0 : Nat → Nat → Int32} {C0 : Nat → Option Nat} {h0 : Nat} {o1 : Nat → Int32} {A1 : Nat → Nat → Int32} {C1 : Nat → Option Nat} {h1 : Nat} {o2 : Nat → Int32} {A2 : Nat → Nat → Int32} {C2 : Nat → Option Nat} {h2 : Nat} {gs0 : Int32} {gA : Nat → Nat → Int32} {tb0 : Int32} {tA0 bf0 : Nat → Int32} {hi0 : Int32} (K : gOK Γ cX10_replace gU RX10) (hlt : ∀ i, i < 2 → i < g_n Γ) (hRm : g_R Γ = ({ frames := 5, cells := 0, slots := 0, locals := 171 } : Room)) {res : ((Nat → Int32)) × ((Nat → Int32)) × ((Nat → Int32))} (hret : ∀ (pc : Nat) (L : List (Nat × Value)) (w : va_W), decode cX10_replace pc = .ok (.return_, 1) → (w = cw (g_E Γ) q r (gpl F) o0 (gu (gu (gu A0 8 res.1) 9 res.2.1) 12 res.2.2) C0 h0 o1 A1 C1 h1 o2 A2 C2 h2 gs0 gA tb0 tA0 bf0 hi0) → gGO Γ 0 0 pc L [] w) (w0a8 : (Nat → Int32)) (w0a9 : (Nat → Int32)) (w0a12 : (Nat → Int32)) (x1 : Int32) (h : pX10_replace_w0 (o0 0) (o0 6) (o0 7) w0a8 w0a9 w0a12 x1 = some res) : gGO Γ 0 0 0 [(0, .ref (q 0)), (1, .int x1)] [] (cw (g_E Γ) q r (gpl F) o0 (gu (gu (gu A0 8 w0a8) 9 w0a9) 12 w0a12) C0 h0 o1 A1 C1 h1 o2 A2 C2 h2 gs0 gA tb0 tA0 bf0 hi0) := by
    unfold pX10_replace_w0 at h
    refine g_aload_n K dX10_replace_0 rfl 0 rfl ?_
    refine g_iload_n K dX10_replace_1 rfl 1 rfl ?_
    obtain ⟨z_1, hz_1, h⟩ := gi_bd h
    refine g_callVi (As := [.int x1]) (bytes := cX10_hasWorker) (maxL := 2) (ret := (some .boolean)) K (ctX10_hasWorker_w0 hF o0 (gu (gu (gu A0 8 w0a8) 9 w0a9) 12 w0a12) C0 h0 o1 A1 C1 h1 o2 A2 C2 h2 gs0 gA tb0 tA0 bf0 hi0 x1 (res := z_1) hz_1) gc_V_RX10_86_X10_hasWorker rfl qv_X10_hasWorker 1 rfl rfl rfl hRm rfl rfl rfl (by decide) (Nat.le_of_ble_eq_true rfl) (by decide) dX10_replace_2 (fun v w hw => ?_)
    obtain ⟨hv9, rfl⟩ := hw; have hv9 := hv9.symm; subst hv9
    obtain ⟨ht9, hf9⟩ := gi_br h; clear h
    refine g_if_ne (tgt := 9) K dX10_replace_5 (by decide) (fun qh => ?_) (fun qh => ?_)
    · have h := hf9 qh; clear ht9 hf9
      refine g_aload_n K dX10_replace_9 rfl 0 rfl ?_
      refine g_get (v := .ref (r 0 8)) (T := TX10) (ref := "ChiefGrades$World") K hin_X10 1 rfl rfl 8 (by decide) u_177 (Or.inl rfl) rfl dX10_replace_10 ?_
      refine g_iload_n K dX10_replace_13 rfl 1 rfl ?_
      refine g_aload_n K dX10_replace_14 rfl 0 rfl ?_
      refine g_get (v := .int (o0 6)) (T := TX10) (ref := "ChiefGrades$World") K hin_X10 1 rfl rfl 6 (by decide) u_173 (Or.inl rfl) rfl dX10_replace_15 ?_
      obtain ⟨b_2, h⟩ := gi_none h
      obtain ⟨f_3, ef_3, h⟩ := gi_nm h
      refine g_iast (f := w0a8) (ws' := cw (g_E Γ) q r (gpl F) o0 (gu (gu (gu A0 8 f_3) 9 w0a9) 12 w0a12) C0 h0 o1 A1 C1 h1 o2 A2 C2 h2 gs0 gA tb0 tA0 bf0 hi0) K 6 rfl (ginb_in b_2) dX10_replace_18 (by rw [ef_3]; rfl) ?_
      refine g_aload_n K dX10_replace_19 rfl 0 rfl ?_
      refine g_get (v := .ref (r 0 9)) (T := TX10) (ref := "ChiefGrades$World") K hin_X10 1 rfl rfl 9 (by decide) u_180 (Or.inl rfl) rfl dX10_replace_20 ?_
      refine g_iload_n K dX10_replace_23 rfl 1 rfl ?_
      refine g_aload_n K dX10_replace_24 rfl 0 rfl ?_
      refine g_get (v := .int (o0 7)) (T := TX10) (ref := "ChiefGrades$World") K hin_X10 1 rfl rfl 7 (by decide) u_175 (Or.inl rfl) rfl dX10_replace_25 ?_
      obtain ⟨b_4, h⟩ := gi_none h
      obtain ⟨f_5, ef_5, h⟩ := gi_nm h
      refine g_iast (f := w0a9) (ws' := cw (g_E Γ) q r (gpl F) o0 (gu (gu (gu A0 8 f_3) 9 f_5) 12 w0a12) C0 h0 o1 A1 C1 h1 o2 A2 C2 h2 gs0 gA tb0 tA0 bf0 hi0) K 7 rfl (ginb_in b_4) dX10_replace_28 (by rw [ef_5]; rfl) ?_
      refine g_aload_n K dX10_replace_29 rfl 0 rfl ?_
      refine g_get (v := .ref (r 0 12)) (T := TX10) (ref := "ChiefGrades$World") K hin_X10 1 rfl rfl 12 (by decide) u_189 (Or.inl rfl) rfl dX10_replace_30 ?_
      refine g_iload_n K dX10_replace_33 rfl 1 rfl ?_
      refine g_iconst (v := 0) K dX10_replace_34 (by decide) ?_
      obtain ⟨b_6, h⟩ := gi_none h
      obtain ⟨f_7, ef_7, h⟩ := gi_nm h
      refine g_iast (f := w0a12) (ws' := cw (g_E Γ) q r (gpl F) o0 (gu (gu (gu A0 8 f_3) 9 f_5) 12 f_7) C0 h0 o1 A1 C1 h1 o2 A2 C2 h2 gs0 gA tb0 tA0 bf0 hi0) K 10 rfl (ginb_in b_6) dX10_replace_35 (by rw [ef_7]; rfl) ?_
      obtain rfl := Option.some.inj h
      exact hret _ _ _ dX10_replace_36 rfl
    · have h := ht9 qh; clear ht9 hf9
      obtain rfl := Option.some.inj h
      exact hret _ _ _ dX10_replace_8 rfl

set_option maxRecDepth 100000 in
theorem ctX10_replace_w0 {E : gE} {q : Nat → Nat} {r : Nat → Nat → Nat} {F : gF} (hF : gFz E F) (o0 : Nat → Int32) (A0 : Nat → Nat → Int32) (C0 : Nat → Option Nat) (h0 : Nat) (o1 : Nat → Int32) (A1 : Nat → Nat → Int32) (C1 : Nat → Option Nat) (h1 : Nat) (o2 : Nat → Int32) (A2 : Nat → Nat → Int32) (C2 : Nat → Option Nat) (h2 : Nat) (gs0 : Int32) (gA : Nat → Nat → Int32) (tb0 : Int32) (tA0 bf0 : Nat → Int32) (hi0 : Int32) (x1 : Int32) {res : ((Nat → Int32)) × ((Nat → Int32)) × ((Nat → Int32))} (h : pX10_replace_w0 (o0 0) (o0 6) (o0 7) (A0 8) (A0 9) (A0 12) x1 = some res) : gMv yX10_replace (.code yX10_replace cX10_replace 2 none :: gU) ({ frames := 5, cells := 0, slots := 0, locals := 171 } : Room) 0 0 E [.ref (q 0), .int x1] (cw E q r (gpl F) o0 A0 C0 h0 o1 A1 C1 h1 o2 A2 C2 h2 gs0 gA tb0 tA0 bf0 hi0) (fun w => w = cw E q r (gpl F) o0 (gu (gu (gu A0 8 res.1) 9 res.2.1) 12 res.2.2) C0 h0 o1 A1 C1 h1 o2 A2 C2 h2 gs0 gA tb0 tA0 bf0 hi0) := by
  refine g_met_v (by decide +kernel) (Nat.le_of_ble_eq_true rfl) (fun Γ K hn hE hRm _ hret => ?_)
  subst hE
  have hlt : ∀ i, i < 2 → i < g_n Γ := fun i q => by rw [hn]; exact q
  refine g_ws (ws' := cw (g_E Γ) q r (gpl F) o0 (gu (gu (gu A0 8 (A0 8)) 9 (A0 9)) 12 (A0 12)) C0 h0 o1 A1 C1 h1 o2 A2 C2 h2 gs0 gA tb0 tA0 bf0 hi0) rfl ?_
  refine g_sub (L' := [(0, .ref (q 0)), (1, .int x1)]) [0, 1] rfl ?_
  exact wX10_replace_w0 (C0 := C0) (h0 := h0) (C1 := C1) (h1 := h1) (C2 := C2) (h2 := h2) (gs0 := gs0) (tb0 := tb0) (tA0 := tA0) (bf0 := bf0) (hi0 := hi0) hF K hlt hRm hret (A0 8) (A0 9) (A0 12) x1 h

set_option maxHeartbeats 4000000 in
set_option maxRecDepth 100000 in
theorem wX11_outByGrade_w0_2 {Γ : gT} {q : Nat → Nat} {r : Nat → Nat → Nat} {F : gF} (hF : gFz (g_E Γ) F) {o0 : Nat → Int32} {A0 : Nat → Nat → Int32} {C0 : Nat → Option Nat} {h0 : Nat} {o1 : Nat → Int32} {A1 : Nat → Nat → Int32} {C1 : Nat → Option Nat} {h1 : Nat} {o2 : Nat → Int32} {A2 : Nat → Nat → Int32} {C2 : Nat → Option Nat} {h2 : Nat} {gs0 : Int32} {gA : Nat → Nat → Int32} {tb0 : Int32} {tA0 bf0 : Nat → Int32} {hi0 : Int32} (K : gOK Γ cX11_outByGrade gU RX11) (hlt : ∀ i, i < 3 → i < g_n Γ) (hRm : g_R Γ = ({ frames := 6, cells := 0, slots := 0, locals := 192 } : Room)) {res : ((Nat → Int32)) × ((Nat → Int32)) × ((Nat → Int32))} (hret : ∀ (pc : Nat) (L : List (Nat × Value)) (w : va_W), decode cX11_outByGrade pc = .ok (.return_, 1) → (w = cw (g_E Γ) q r (gpl F) o0 (gu (gu (gu A0 8 res.1) 9 res.2.1) 12 res.2.2) C0 h0 o1 A1 C1 h1 o2 A2 C2 h2 gs0 gA tb0 tA0 bf0 hi0) → gGO Γ 0 0 pc L [] w) : ∀ (n : Nat) (w0a8 : (Nat → Int32)) (w0a9 : (Nat → Int32)) (w0a12 : (Nat → Int32)) (x2 : Int32), pX11_outByGrade_w0_2 (o0 0) (o0 6) (o0 7) (gA 0) n w0a8 w0a9 w0a12 x2 = some res → gGO Γ 0 0 2 [(0, .ref (q 5)), (1, .ref (q 0)), (2, .int x2)] [] (cw (g_E Γ) q r (gpl F) o0 (gu (gu (gu A0 8 w0a8) 9 w0a9) 12 w0a12) C0 h0 o1 A1 C1 h1 o2 A2 C2 h2 gs0 gA tb0 tA0 bf0 hi0) := by
  intro n
  induction n with
  | zero => intro _ _ _ _ h; cases h
  | succ n ih =>
    intro w0a8 w0a9 w0a12 x2 h
    simp only [pX11_outByGrade_w0_2] at h
    refine g_iload_n K dX11_outByGrade_2 rfl 2 rfl ?_
    refine g_aload_n K dX11_outByGrade_3 rfl 1 rfl ?_
    refine g_get (v := .int (o0 0)) (T := TX10) (ref := "ChiefGrades$World") K hin_X10 1 rfl rfl 0 (by decide) u_160 (Or.inl rfl) rfl dX11_outByGrade_4 ?_
    obtain ⟨ht9, hf9⟩ := gi_br h; clear h
    refine g_icmp_ge (tgt := 34) K dX11_outByGrade_7 (by decide) (fun qh => ?_) (fun qh => ?_)
    · have h := ht9 qh; clear ht9 hf9
      obtain rfl := Option.some.inj h
      exact hret _ _ _ dX11_outByGrade_34 rfl
    · have h := hf9 qh; clear ht9 hf9
      refine g_aload_n K dX11_outByGrade_10 rfl 0 rfl ?_
      refine g_get (v := .ref (q 3)) (T := TX11) (ref := "ChiefGrades") K hin_X11 0 rfl rfl 3 (by decide) u_327 (Or.inl rfl) rfl dX11_outByGrade_11 ?_
      refine g_get (v := .ref (r 3 0)) (T := TX1) (ref := "ChiefGrades$Grader") K hin_X1 4 rfl rfl 0 (by decide) u_287 (Or.inl rfl) rfl dX11_outByGrade_14 ?_
      refine g_iload_n K dX11_outByGrade_17 rfl 2 rfl ?_
      obtain ⟨b_1, h⟩ := gi_none h
      refine g_iald (f := (gA 0)) K 36 rfl (ginb_in b_1) dX11_outByGrade_18 ?_
      refine g_iconst (v := 1) K dX11_outByGrade_19 (by decide) ?_
      obtain ⟨ht9, hf9⟩ := gi_br h; clear h
      refine g_icmp_ne (tgt := 28) K dX11_outByGrade_20 (by decide) (fun qh => ?_) (fun qh => ?_)
      · have h := hf9 qh; clear ht9 hf9
        refine g_iinc (v := (x2 + 1)) (L' := [(2, .int (x2 + 1)), (0, .ref (q 5)), (1, .ref (q 0))]) K dX11_outByGrade_28 2 rfl rfl (hlt _ (by decide)) rfl ?_
        refine g_goto (tgt := 2) K dX11_outByGrade_31 (by decide) ?_
        refine g_sub (L' := [(0, .ref (q 5)), (1, .ref (q 0)), (2, .int (x2 + 1))]) [1, 2, 0] rfl ?_
        exact ih w0a8 w0a9 w0a12 (x2 + 1) h
      · have h := ht9 qh; clear ht9 hf9
        refine g_aload_n K dX11_outByGrade_23 rfl 1 rfl ?_
        refine g_iload_n K dX11_outByGrade_24 rfl 2 rfl ?_
        obtain ⟨z_2, hz_2, h⟩ := gi_bd h
        refine g_callVv (As := [.int x2]) (bytes := cX10_replace) (maxL := 2) (ret := none) K (ctX10_replace_w0 hF o0 (gu (gu (gu A0 8 w0a8) 9 w0a9) 12 w0a12) C0 h0 o1 A1 C1 h1 o2 A2 C2 h2 gs0 gA tb0 tA0 bf0 hi0 x2 (res := z_2) hz_2) gc_V_RX11_267_X10_replace rfl qv_X10_replace 1 rfl rfl rfl hRm rfl rfl rfl (by decide) (Nat.le_of_ble_eq_true rfl) (by decide) dX11_outByGrade_25 (fun w hw => ?_)
        subst hw
        refine g_ws (ws' := cw (g_E Γ) q r (gpl F) o0 (gu (gu (gu A0 8 z_2.1) 9 z_2.2.1) 12 z_2.2.2) C0 h0 o1 A1 C1 h1 o2 A2 C2 h2 gs0 gA tb0 tA0 bf0 hi0) rfl ?_
        refine g_iinc (v := (x2 + 1)) (L' := [(2, .int (x2 + 1)), (0, .ref (q 5)), (1, .ref (q 0))]) K dX11_outByGrade_28 2 rfl rfl (hlt _ (by decide)) rfl ?_
        refine g_goto (tgt := 2) K dX11_outByGrade_31 (by decide) ?_
        refine g_sub (L' := [(0, .ref (q 5)), (1, .ref (q 0)), (2, .int (x2 + 1))]) [1, 2, 0] rfl ?_
        exact ih z_2.1 z_2.2.1 z_2.2.2 (x2 + 1) h

set_option maxHeartbeats 4000000 in
set_option maxRecDepth 100000 in
theorem wX11_outByGrade_w0 {Γ : gT} {q : Nat → Nat} {r : Nat → Nat → Nat} {F : gF} (hF : gFz (g_E Γ) F) {o0 : Nat → Int32} {A0 : Nat → Nat → Int32} {C0 : Nat → Option Nat} {h0 : Nat} {o1 : Nat → Int32} {A1 : Nat → Nat → Int32} {C1 : Nat → Option Nat} {h1 : Nat} {o2 : Nat → Int32} {A2 : Nat → Nat → Int32} {C2 : Nat → Option Nat} {h2 : Nat} {gs0 : Int32} {gA : Nat → Nat → Int32} {tb0 : Int32} {tA0 bf0 : Nat → Int32} {hi0 : Int32} (K : gOK Γ cX11_outByGrade gU RX11) (hlt : ∀ i, i < 3 → i < g_n Γ) (hRm : g_R Γ = ({ frames := 6, cells := 0, slots := 0, locals := 192 } : Room)) {res : ((Nat → Int32)) × ((Nat → Int32)) × ((Nat → Int32))} (hret : ∀ (pc : Nat) (L : List (Nat × Value)) (w : va_W), decode cX11_outByGrade pc = .ok (.return_, 1) → (w = cw (g_E Γ) q r (gpl F) o0 (gu (gu (gu A0 8 res.1) 9 res.2.1) 12 res.2.2) C0 h0 o1 A1 C1 h1 o2 A2 C2 h2 gs0 gA tb0 tA0 bf0 hi0) → gGO Γ 0 0 pc L [] w) (w0a8 : (Nat → Int32)) (w0a9 : (Nat → Int32)) (w0a12 : (Nat → Int32)) (h : pX11_outByGrade_w0 (o0 0) (o0 6) (o0 7) (gA 0) w0a8 w0a9 w0a12 = some res) : gGO Γ 0 0 0 [(0, .ref (q 5)), (1, .ref (q 0))] [] (cw (g_E Γ) q r (gpl F) o0 (gu (gu (gu A0 8 w0a8) 9 w0a9) 12 w0a12) C0 h0 o1 A1 C1 h1 o2 A2 C2 h2 gs0 gA tb0 tA0 bf0 hi0) := by
    unfold pX11_outByGrade_w0 at h
    refine g_iconst (v := 0) K dX11_outByGrade_0 (by decide) ?_
    refine g_istore_n (L' := [(2, .int 0), (0, .ref (q 5)), (1, .ref (q 0))]) K dX11_outByGrade_1 rfl (hlt _ (by decide)) rfl ?_
    refine g_sub (L' := [(0, .ref (q 5)), (1, .ref (q 0)), (2, .int 0)]) [1, 2, 0] rfl ?_
    exact wX11_outByGrade_w0_2 (C0 := C0) (h0 := h0) (C1 := C1) (h1 := h1) (C2 := C2) (h2 := h2) (gs0 := gs0) (tb0 := tb0) (tA0 := tA0) (bf0 := bf0) (hi0 := hi0) hF K hlt hRm hret 1000 w0a8 w0a9 w0a12 0 h

set_option maxRecDepth 100000 in
theorem ctX11_outByGrade_w0 {E : gE} {q : Nat → Nat} {r : Nat → Nat → Nat} {F : gF} (hF : gFz E F) (o0 : Nat → Int32) (A0 : Nat → Nat → Int32) (C0 : Nat → Option Nat) (h0 : Nat) (o1 : Nat → Int32) (A1 : Nat → Nat → Int32) (C1 : Nat → Option Nat) (h1 : Nat) (o2 : Nat → Int32) (A2 : Nat → Nat → Int32) (C2 : Nat → Option Nat) (h2 : Nat) (gs0 : Int32) (gA : Nat → Nat → Int32) (tb0 : Int32) (tA0 bf0 : Nat → Int32) (hi0 : Int32) {res : ((Nat → Int32)) × ((Nat → Int32)) × ((Nat → Int32))} (h : pX11_outByGrade_w0 (o0 0) (o0 6) (o0 7) (gA 0) (A0 8) (A0 9) (A0 12) = some res) : gMv yX11_outByGrade (.code yX11_outByGrade cX11_outByGrade 3 none :: gU) ({ frames := 6, cells := 0, slots := 0, locals := 192 } : Room) 0 0 E [.ref (q 5), .ref (q 0)] (cw E q r (gpl F) o0 A0 C0 h0 o1 A1 C1 h1 o2 A2 C2 h2 gs0 gA tb0 tA0 bf0 hi0) (fun w => w = cw E q r (gpl F) o0 (gu (gu (gu A0 8 res.1) 9 res.2.1) 12 res.2.2) C0 h0 o1 A1 C1 h1 o2 A2 C2 h2 gs0 gA tb0 tA0 bf0 hi0) := by
  refine g_met_v (by decide +kernel) (Nat.le_of_ble_eq_true rfl) (fun Γ K hn hE hRm _ hret => ?_)
  subst hE
  have hlt : ∀ i, i < 3 → i < g_n Γ := fun i q => by rw [hn]; exact q
  refine g_ws (ws' := cw (g_E Γ) q r (gpl F) o0 (gu (gu (gu A0 8 (A0 8)) 9 (A0 9)) 12 (A0 12)) C0 h0 o1 A1 C1 h1 o2 A2 C2 h2 gs0 gA tb0 tA0 bf0 hi0) rfl ?_
  refine g_sub (L' := [(0, .ref (q 5)), (1, .ref (q 0))]) [0, 1] rfl ?_
  exact wX11_outByGrade_w0 (C0 := C0) (h0 := h0) (C1 := C1) (h1 := h1) (C2 := C2) (h2 := h2) (gs0 := gs0) (tb0 := tb0) (tA0 := tA0) (bf0 := bf0) (hi0 := hi0) hF K hlt hRm hret (A0 8) (A0 9) (A0 12) h

set_option maxHeartbeats 4000000 in
set_option maxRecDepth 100000 in
theorem wX11_outByLot_w0_10 {Γ : gT} {q : Nat → Nat} {r : Nat → Nat → Nat} {F : gF} (hF : gFz (g_E Γ) F) {o0 : Nat → Int32} {A0 : Nat → Nat → Int32} {C0 : Nat → Option Nat} {h0 : Nat} {o1 : Nat → Int32} {A1 : Nat → Nat → Int32} {C1 : Nat → Option Nat} {h1 : Nat} {o2 : Nat → Int32} {A2 : Nat → Nat → Int32} {C2 : Nat → Option Nat} {h2 : Nat} {gs0 : Int32} {gA : Nat → Nat → Int32} {tb0 : Int32} {tA0 bf0 : Nat → Int32} {hi0 : Int32} (K : gOK Γ cX11_outByLot gU RX11) (hlt : ∀ i, i < 3 → i < g_n Γ) (hRm : g_R Γ = ({ frames := 6, cells := 0, slots := 0, locals := 192 } : Room)) {res : ((Nat → Int32)) × ((Nat → Int32)) × ((Nat → Int32))} (hret : ∀ (pc : Nat) (L : List (Nat × Value)) (w : va_W), decode cX11_outByLot pc = .ok (.return_, 1) → (w = cw (g_E Γ) q r (gpl F) o0 (gu (gu (gu A0 8 res.1) 9 res.2.1) 12 res.2.2) C0 h0 o1 A1 C1 h1 o2 A2 C2 h2 gs0 gA tb0 tA0 bf0 hi0) → gGO Γ 0 0 pc L [] w) : ∀ (n : Nat) (w0a8 : (Nat → Int32)) (w0a9 : (Nat → Int32)) (w0a12 : (Nat → Int32)) (x1 : Int32) (x2 : Int32), pX11_outByLot_w0_10 (o0 0) (o0 5) (o0 6) (o0 7) n w0a8 w0a9 w0a12 x1 x2 = some res → gGO Γ 0 0 10 [(0, .ref (q 0)), (1, .int x1), (2, .int x2)] [] (cw (g_E Γ) q r (gpl F) o0 (gu (gu (gu A0 8 w0a8) 9 w0a9) 12 w0a12) C0 h0 o1 A1 C1 h1 o2 A2 C2 h2 gs0 gA tb0 tA0 bf0 hi0) := by
  intro n
  induction n with
  | zero => intro _ _ _ _ _ h; cases h
  | succ n ih =>
    intro w0a8 w0a9 w0a12 x1 x2 h
    simp only [pX11_outByLot_w0_10] at h
    refine g_iload_n K dX11_outByLot_10 rfl 2 rfl ?_
    refine g_iload_n K dX11_outByLot_11 rfl 1 rfl ?_
    obtain ⟨ht9, hf9⟩ := gi_br h; clear h
    refine g_icmp_ge (tgt := 39) K dX11_outByLot_12 (by decide) (fun qh => ?_) (fun qh => ?_)
    · have h := ht9 qh; clear ht9 hf9
      obtain rfl := Option.some.inj h
      exact hret _ _ _ dX11_outByLot_39 rfl
    · have h := hf9 qh; clear ht9 hf9
      refine g_aload_n K dX11_outByLot_15 rfl 0 rfl ?_
      refine g_aload_n K dX11_outByLot_16 rfl 0 rfl ?_
      refine g_get (v := .int (o0 5)) (T := TX10) (ref := "ChiefGrades$World") K hin_X10 1 rfl rfl 5 (by decide) u_172 (Or.inl rfl) rfl dX11_outByLot_17 ?_
      refine g_bipush (v := 7) K dX11_outByLot_20 (by decide) ?_
      refine g_imul K dX11_outByLot_22 ?_
      refine g_iload_n K dX11_outByLot_23 rfl 2 rfl ?_
      refine g_iadd K dX11_outByLot_24 ?_
      refine g_aload_n K dX11_outByLot_25 rfl 0 rfl ?_
      refine g_get (v := .int (o0 0)) (T := TX10) (ref := "ChiefGrades$World") K hin_X10 1 rfl rfl 0 (by decide) u_160 (Or.inl rfl) rfl dX11_outByLot_26 ?_
      obtain ⟨c_1, h⟩ := gi_none h
      refine g_irem K dX11_outByLot_29 c_1 ?_
      obtain ⟨z_2, hz_2, h⟩ := gi_bd h
      refine g_callVv (As := [.int ((((o0 5) * 7) + x2) - (((o0 5) * 7) + x2) / (o0 0) * (o0 0))]) (bytes := cX10_replace) (maxL := 2) (ret := none) K (ctX10_replace_w0 hF o0 (gu (gu (gu A0 8 w0a8) 9 w0a9) 12 w0a12) C0 h0 o1 A1 C1 h1 o2 A2 C2 h2 gs0 gA tb0 tA0 bf0 hi0 ((((o0 5) * 7) + x2) - (((o0 5) * 7) + x2) / (o0 0) * (o0 0)) (res := z_2) hz_2) gc_V_RX11_267_X10_replace rfl qv_X10_replace 1 rfl rfl rfl hRm rfl rfl rfl (by decide) (Nat.le_of_ble_eq_true rfl) (by decide) dX11_outByLot_30 (fun w hw => ?_)
      subst hw
      refine g_ws (ws' := cw (g_E Γ) q r (gpl F) o0 (gu (gu (gu A0 8 z_2.1) 9 z_2.2.1) 12 z_2.2.2) C0 h0 o1 A1 C1 h1 o2 A2 C2 h2 gs0 gA tb0 tA0 bf0 hi0) rfl ?_
      refine g_iinc (v := (x2 + 1)) (L' := [(2, .int (x2 + 1)), (0, .ref (q 0)), (1, .int x1)]) K dX11_outByLot_33 2 rfl rfl (hlt _ (by decide)) rfl ?_
      refine g_goto (tgt := 10) K dX11_outByLot_36 (by decide) ?_
      refine g_sub (L' := [(0, .ref (q 0)), (1, .int x1), (2, .int (x2 + 1))]) [1, 2, 0] rfl ?_
      exact ih z_2.1 z_2.2.1 z_2.2.2 x1 (x2 + 1) h

set_option maxHeartbeats 4000000 in
set_option maxRecDepth 100000 in
theorem wX11_outByLot_w0 {Γ : gT} {q : Nat → Nat} {r : Nat → Nat → Nat} {F : gF} (hF : gFz (g_E Γ) F) {o0 : Nat → Int32} {A0 : Nat → Nat → Int32} {C0 : Nat → Option Nat} {h0 : Nat} {o1 : Nat → Int32} {A1 : Nat → Nat → Int32} {C1 : Nat → Option Nat} {h1 : Nat} {o2 : Nat → Int32} {A2 : Nat → Nat → Int32} {C2 : Nat → Option Nat} {h2 : Nat} {gs0 : Int32} {gA : Nat → Nat → Int32} {tb0 : Int32} {tA0 bf0 : Nat → Int32} {hi0 : Int32} (K : gOK Γ cX11_outByLot gU RX11) (hlt : ∀ i, i < 3 → i < g_n Γ) (hRm : g_R Γ = ({ frames := 6, cells := 0, slots := 0, locals := 192 } : Room)) {res : ((Nat → Int32)) × ((Nat → Int32)) × ((Nat → Int32))} (hret : ∀ (pc : Nat) (L : List (Nat × Value)) (w : va_W), decode cX11_outByLot pc = .ok (.return_, 1) → (w = cw (g_E Γ) q r (gpl F) o0 (gu (gu (gu A0 8 res.1) 9 res.2.1) 12 res.2.2) C0 h0 o1 A1 C1 h1 o2 A2 C2 h2 gs0 gA tb0 tA0 bf0 hi0) → gGO Γ 0 0 pc L [] w) (w0a8 : (Nat → Int32)) (w0a9 : (Nat → Int32)) (w0a12 : (Nat → Int32)) (x1 : Int32) (h : pX11_outByLot_w0 (o0 0) (o0 5) (o0 6) (o0 7) w0a8 w0a9 w0a12 x1 = some res) : gGO Γ 0 0 0 [(0, .ref (q 0)), (1, .int x1)] [] (cw (g_E Γ) q r (gpl F) o0 (gu (gu (gu A0 8 w0a8) 9 w0a9) 12 w0a12) C0 h0 o1 A1 C1 h1 o2 A2 C2 h2 gs0 gA tb0 tA0 bf0 hi0) := by
    unfold pX11_outByLot_w0 at h
    refine g_aload_n K dX11_outByLot_0 rfl 0 rfl ?_
    refine g_get (v := .int (o0 0)) (T := TX10) (ref := "ChiefGrades$World") K hin_X10 1 rfl rfl 0 (by decide) u_160 (Or.inl rfl) rfl dX11_outByLot_1 ?_
    obtain ⟨ht9, hf9⟩ := gi_br h; clear h
    refine g_if_ne (tgt := 8) K dX11_outByLot_4 (by decide) (fun qh => ?_) (fun qh => ?_)
    · have h := hf9 qh; clear ht9 hf9
      refine g_iconst (v := 0) K dX11_outByLot_8 (by decide) ?_
      refine g_istore_n (L' := [(2, .int 0), (0, .ref (q 0)), (1, .int x1)]) K dX11_outByLot_9 rfl (hlt _ (by decide)) rfl ?_
      refine g_sub (L' := [(0, .ref (q 0)), (1, .int x1), (2, .int 0)]) [1, 2, 0] rfl ?_
      exact wX11_outByLot_w0_10 (C0 := C0) (h0 := h0) (C1 := C1) (h1 := h1) (C2 := C2) (h2 := h2) (gs0 := gs0) (tb0 := tb0) (tA0 := tA0) (bf0 := bf0) (hi0 := hi0) hF K hlt hRm hret 1000 w0a8 w0a9 w0a12 x1 0 h
    · have h := ht9 qh; clear ht9 hf9
      obtain rfl := Option.some.inj h
      exact hret _ _ _ dX11_outByLot_7 rfl

set_option maxRecDepth 100000 in
theorem ctX11_outByLot_w0 {E : gE} {q : Nat → Nat} {r : Nat → Nat → Nat} {F : gF} (hF : gFz E F) (o0 : Nat → Int32) (A0 : Nat → Nat → Int32) (C0 : Nat → Option Nat) (h0 : Nat) (o1 : Nat → Int32) (A1 : Nat → Nat → Int32) (C1 : Nat → Option Nat) (h1 : Nat) (o2 : Nat → Int32) (A2 : Nat → Nat → Int32) (C2 : Nat → Option Nat) (h2 : Nat) (gs0 : Int32) (gA : Nat → Nat → Int32) (tb0 : Int32) (tA0 bf0 : Nat → Int32) (hi0 : Int32) (x1 : Int32) {res : ((Nat → Int32)) × ((Nat → Int32)) × ((Nat → Int32))} (h : pX11_outByLot_w0 (o0 0) (o0 5) (o0 6) (o0 7) (A0 8) (A0 9) (A0 12) x1 = some res) : gMv yX11_outByLot (.code yX11_outByLot cX11_outByLot 3 none :: gU) ({ frames := 6, cells := 0, slots := 0, locals := 192 } : Room) 0 0 E [.ref (q 0), .int x1] (cw E q r (gpl F) o0 A0 C0 h0 o1 A1 C1 h1 o2 A2 C2 h2 gs0 gA tb0 tA0 bf0 hi0) (fun w => w = cw E q r (gpl F) o0 (gu (gu (gu A0 8 res.1) 9 res.2.1) 12 res.2.2) C0 h0 o1 A1 C1 h1 o2 A2 C2 h2 gs0 gA tb0 tA0 bf0 hi0) := by
  refine g_met_v (by decide +kernel) (Nat.le_of_ble_eq_true rfl) (fun Γ K hn hE hRm _ hret => ?_)
  subst hE
  have hlt : ∀ i, i < 3 → i < g_n Γ := fun i q => by rw [hn]; exact q
  refine g_ws (ws' := cw (g_E Γ) q r (gpl F) o0 (gu (gu (gu A0 8 (A0 8)) 9 (A0 9)) 12 (A0 12)) C0 h0 o1 A1 C1 h1 o2 A2 C2 h2 gs0 gA tb0 tA0 bf0 hi0) rfl ?_
  refine g_sub (L' := [(0, .ref (q 0)), (1, .int x1)]) [0, 1] rfl ?_
  exact wX11_outByLot_w0 (C0 := C0) (h0 := h0) (C1 := C1) (h1 := h1) (C2 := C2) (h2 := h2) (gs0 := gs0) (tb0 := tb0) (tA0 := tA0) (bf0 := bf0) (hi0 := hi0) hF K hlt hRm hret (A0 8) (A0 9) (A0 12) x1 h

set_option maxHeartbeats 4000000 in
set_option maxRecDepth 100000 in
theorem wX11_goYear_w0_96 {Γ : gT} {q : Nat → Nat} {r : Nat → Nat → Nat} {F : gF} (hF : gFz (g_E Γ) F) {o0 : Nat → Int32} {A0 : Nat → Nat → Int32} {C0 : Nat → Option Nat} {h0 : Nat} {o1 : Nat → Int32} {A1 : Nat → Nat → Int32} {C1 : Nat → Option Nat} {h1 : Nat} {o2 : Nat → Int32} {A2 : Nat → Nat → Int32} {C2 : Nat → Option Nat} {h2 : Nat} {gs0 : Int32} {gA : Nat → Nat → Int32} {tb0 : Int32} {tA0 bf0 : Nat → Int32} {hi0 : Int32} (K : gOK Γ cX11_goYear gU RX11) (hlt : ∀ i, i < 6 → i < g_n Γ) (hRm : g_R Γ = ({ frames := 10, cells := 0, slots := 0, locals := 283 } : Room)) {res : Int32 × Int32 × ((Nat → Int32)) × ((Nat → Int32)) × ((Nat → Int32)) × Int32 × ((Nat → Int32)) × ((Nat → Int32)) × ((Nat → Int32)) × ((Nat → Int32)) × ((Nat → Int32))} (hret : ∀ (pc : Nat) (L : List (Nat × Value)) (v : Int32) (w : va_W), decode cX11_goYear pc = .ok (.ireturn, 1) → narrow .int (.int v) = .int v → (v = res.1 ∧ w = cw (g_E Γ) q r (gpl F) (gu o0 5 res.2.1) (gu (gu (gu A0 8 res.2.2.1) 9 res.2.2.2.1) 12 res.2.2.2.2.1) C0 h0 o1 A1 C1 h1 o2 A2 C2 h2 res.2.2.2.2.2.1 (gu (gu (gu (gu (gu gA 0 res.2.2.2.2.2.2.1) 1 res.2.2.2.2.2.2.2.1) 2 res.2.2.2.2.2.2.2.2.1) 3 res.2.2.2.2.2.2.2.2.2.1) 5 res.2.2.2.2.2.2.2.2.2.2) tb0 tA0 bf0 hi0) → gGO Γ 0 0 pc L [.int v] w) (w0o5 : Int32) (w0a8 : (Nat → Int32)) (w0a9 : (Nat → Int32)) (w0a12 : (Nat → Int32)) (gs : Int32) (ga0 : (Nat → Int32)) (ga1 : (Nat → Int32)) (ga2 : (Nat → Int32)) (ga3 : (Nat → Int32)) (ga5 : (Nat → Int32)) (x2 : Int32) (x3 : Int32) (h : pX11_goYear_w0_96 F (o0 0) (o0 1) (o0 6) (o0 7) (A0 10) (A0 11) h0 C0 w0o5 w0a8 w0a9 w0a12 gs ga0 ga1 ga2 ga3 ga5 x2 x3 = some res) : gGO Γ 0 0 96 [(0, .ref (q 5)), (1, .ref (q 0)), (2, .int x2), (3, .int x3)] [] (cw (g_E Γ) q r (gpl F) (gu o0 5 w0o5) (gu (gu (gu A0 8 w0a8) 9 w0a9) 12 w0a12) C0 h0 o1 A1 C1 h1 o2 A2 C2 h2 gs (gu (gu (gu (gu (gu gA 0 ga0) 1 ga1) 2 ga2) 3 ga3) 5 ga5) tb0 tA0 bf0 hi0) := by
    unfold pX11_goYear_w0_96 at h
    refine g_iload_n K dX11_goYear_96 rfl 2 rfl ?_
    refine g_iconst (v := 1) K dX11_goYear_97 (by decide) ?_
    obtain ⟨ht9, hf9⟩ := gi_br h; clear h
    refine g_icmp_ne (tgt := 106) K dX11_goYear_98 (by decide) (fun qh => ?_) (fun qh => ?_)
    · have h := hf9 qh; clear ht9 hf9
      refine g_iload_n K dX11_goYear_106 rfl 2 rfl ?_
      refine g_iconst (v := 2) K dX11_goYear_107 (by decide) ?_
      obtain ⟨ht9, hf9⟩ := gi_br h; clear h
      refine g_icmp_ne (tgt := 119) K dX11_goYear_108 (by decide) (fun qh => ?_) (fun qh => ?_)
      · have h := hf9 qh; clear ht9 hf9
        refine g_aload_n K dX11_goYear_119 rfl 0 rfl ?_
        refine g_aload_n K dX11_goYear_120 rfl 1 rfl ?_
        obtain ⟨z_1, hz_1, h⟩ := gi_bd h
        refine g_callVv (As := [.ref (q 0)]) (bytes := cX11_outByGrade) (maxL := 3) (ret := none) K (ctX11_outByGrade_w0 hF (gu o0 5 w0o5) (gu (gu (gu A0 8 w0a8) 9 w0a9) 12 w0a12) C0 h0 o1 A1 C1 h1 o2 A2 C2 h2 gs (gu (gu (gu (gu (gu gA 0 ga0) 1 ga1) 2 ga2) 3 ga3) 5 ga5) tb0 tA0 bf0 hi0 (res := z_1) hz_1) gc_V_RX11_264_X11_outByGrade rfl qv_X11_outByGrade 0 rfl rfl rfl hRm rfl rfl rfl (by decide) (Nat.le_of_ble_eq_true rfl) (by decide) dX11_goYear_121 (fun w hw => ?_)
        subst hw
        refine g_ws (ws' := cw (g_E Γ) q r (gpl F) (gu o0 5 w0o5) (gu (gu (gu A0 8 z_1.1) 9 z_1.2.1) 12 z_1.2.2) C0 h0 o1 A1 C1 h1 o2 A2 C2 h2 gs (gu (gu (gu (gu (gu gA 0 ga0) 1 ga1) 2 ga2) 3 ga3) 5 ga5) tb0 tA0 bf0 hi0) rfl ?_
        refine g_aload_n K dX11_goYear_124 rfl 1 rfl ?_
        refine g_dup K dX11_goYear_125 rfl ?_
        refine g_get (v := .int w0o5) (T := TX10) (ref := "ChiefGrades$World") K hin_X10 1 rfl rfl 5 (by decide) u_172 (Or.inl rfl) rfl dX11_goYear_126 ?_
        refine g_iconst (v := 1) K dX11_goYear_129 (by decide) ?_
        refine g_iadd K dX11_goYear_130 ?_
        refine g_put (v := .int (w0o5 + 1)) (ws' := cw (g_E Γ) q r (gpl F) (gu o0 5 (w0o5 + 1)) (gu (gu (gu A0 8 z_1.1) 9 z_1.2.1) 12 z_1.2.2) C0 h0 o1 A1 C1 h1 o2 A2 C2 h2 gs (gu (gu (gu (gu (gu gA 0 ga0) 1 ga1) 2 ga2) 3 ga3) 5 ga5) tb0 tA0 bf0 hi0) (T := TX10) (ref := "ChiefGrades$World") (ty := .int) K hin_X10 tyX10_ok nmX10 1 rfl rfl 5 (by decide) u_172 rfl rfl (by decide +kernel) rfl rfl (Nat.le_of_ble_eq_true rfl) dX11_goYear_131 rfl ?_
        refine g_iload_n K dX11_goYear_134 rfl 3 rfl ?_
        obtain rfl := Option.some.inj h
        exact hret _ _ _ _ dX11_goYear_135 rfl ⟨rfl, rfl⟩
      · have h := ht9 qh; clear ht9 hf9
        refine g_aload_n K dX11_goYear_111 rfl 1 rfl ?_
        refine g_iload_n K dX11_goYear_112 rfl 3 rfl ?_
        obtain ⟨z_2, hz_2, h⟩ := gi_bd h
        refine g_callSv (As := [.ref (q 0), .int x3]) (bytes := cX11_outByLot) (maxL := 3) (ret := none) K (ctX11_outByLot_w0 hF (gu o0 5 w0o5) (gu (gu (gu A0 8 w0a8) 9 w0a9) 12 w0a12) C0 h0 o1 A1 C1 h1 o2 A2 C2 h2 gs (gu (gu (gu (gu (gu gA 0 ga0) 1 ga1) 2 ga2) 3 ga3) 5 ga5) tb0 tA0 bf0 hi0 x3 (res := z_2) hz_2) gc_S_RX11_260_X11_outByLot rfl qs_X11_outByLot hRm rfl rfl rfl (by decide) (Nat.le_of_ble_eq_true rfl) (by decide) dX11_goYear_113 (fun w hw => ?_)
        subst hw
        refine g_ws (ws' := cw (g_E Γ) q r (gpl F) (gu o0 5 w0o5) (gu (gu (gu A0 8 z_2.1) 9 z_2.2.1) 12 z_2.2.2) C0 h0 o1 A1 C1 h1 o2 A2 C2 h2 gs (gu (gu (gu (gu (gu gA 0 ga0) 1 ga1) 2 ga2) 3 ga3) 5 ga5) tb0 tA0 bf0 hi0) rfl ?_
        refine g_goto (tgt := 124) K dX11_goYear_116 (by decide) ?_
        refine g_aload_n K dX11_goYear_124 rfl 1 rfl ?_
        refine g_dup K dX11_goYear_125 rfl ?_
        refine g_get (v := .int w0o5) (T := TX10) (ref := "ChiefGrades$World") K hin_X10 1 rfl rfl 5 (by decide) u_172 (Or.inl rfl) rfl dX11_goYear_126 ?_
        refine g_iconst (v := 1) K dX11_goYear_129 (by decide) ?_
        refine g_iadd K dX11_goYear_130 ?_
        refine g_put (v := .int (w0o5 + 1)) (ws' := cw (g_E Γ) q r (gpl F) (gu o0 5 (w0o5 + 1)) (gu (gu (gu A0 8 z_2.1) 9 z_2.2.1) 12 z_2.2.2) C0 h0 o1 A1 C1 h1 o2 A2 C2 h2 gs (gu (gu (gu (gu (gu gA 0 ga0) 1 ga1) 2 ga2) 3 ga3) 5 ga5) tb0 tA0 bf0 hi0) (T := TX10) (ref := "ChiefGrades$World") (ty := .int) K hin_X10 tyX10_ok nmX10 1 rfl rfl 5 (by decide) u_172 rfl rfl (by decide +kernel) rfl rfl (Nat.le_of_ble_eq_true rfl) dX11_goYear_131 rfl ?_
        refine g_iload_n K dX11_goYear_134 rfl 3 rfl ?_
        obtain rfl := Option.some.inj h
        exact hret _ _ _ _ dX11_goYear_135 rfl ⟨rfl, rfl⟩
    · have h := ht9 qh; clear ht9 hf9
      refine g_iconst (v := 0) K dX11_goYear_101 (by decide) ?_
      refine g_istore_n (L' := [(3, .int 0), (0, .ref (q 5)), (1, .ref (q 0)), (2, .int x2)]) K dX11_goYear_102 rfl (hlt _ (by decide)) rfl ?_
      refine g_goto (tgt := 124) K dX11_goYear_103 (by decide) ?_
      refine g_aload_n K dX11_goYear_124 rfl 2 rfl ?_
      refine g_dup K dX11_goYear_125 rfl ?_
      refine g_get (v := .int w0o5) (T := TX10) (ref := "ChiefGrades$World") K hin_X10 1 rfl rfl 5 (by decide) u_172 (Or.inl rfl) rfl dX11_goYear_126 ?_
      refine g_iconst (v := 1) K dX11_goYear_129 (by decide) ?_
      refine g_iadd K dX11_goYear_130 ?_
      refine g_put (v := .int (w0o5 + 1)) (ws' := cw (g_E Γ) q r (gpl F) (gu o0 5 (w0o5 + 1)) (gu (gu (gu A0 8 w0a8) 9 w0a9) 12 w0a12) C0 h0 o1 A1 C1 h1 o2 A2 C2 h2 gs (gu (gu (gu (gu (gu gA 0 ga0) 1 ga1) 2 ga2) 3 ga3) 5 ga5) tb0 tA0 bf0 hi0) (T := TX10) (ref := "ChiefGrades$World") (ty := .int) K hin_X10 tyX10_ok nmX10 1 rfl rfl 5 (by decide) u_172 rfl rfl (by decide +kernel) rfl rfl (Nat.le_of_ble_eq_true rfl) dX11_goYear_131 rfl ?_
      refine g_iload_n K dX11_goYear_134 rfl 0 rfl ?_
      obtain rfl := Option.some.inj h
      exact hret _ _ _ _ dX11_goYear_135 rfl ⟨rfl, rfl⟩

set_option maxHeartbeats 4000000 in
set_option maxRecDepth 100000 in
theorem wX11_goYear_w0_29 {Γ : gT} {q : Nat → Nat} {r : Nat → Nat → Nat} {F : gF} (hF : gFz (g_E Γ) F) {o0 : Nat → Int32} {A0 : Nat → Nat → Int32} {C0 : Nat → Option Nat} {h0 : Nat} {o1 : Nat → Int32} {A1 : Nat → Nat → Int32} {C1 : Nat → Option Nat} {h1 : Nat} {o2 : Nat → Int32} {A2 : Nat → Nat → Int32} {C2 : Nat → Option Nat} {h2 : Nat} {gs0 : Int32} {gA : Nat → Nat → Int32} {tb0 : Int32} {tA0 bf0 : Nat → Int32} {hi0 : Int32} (K : gOK Γ cX11_goYear gU RX11) (hlt : ∀ i, i < 6 → i < g_n Γ) (hRm : g_R Γ = ({ frames := 10, cells := 0, slots := 0, locals := 283 } : Room)) {res : Int32 × Int32 × ((Nat → Int32)) × ((Nat → Int32)) × ((Nat → Int32)) × Int32 × ((Nat → Int32)) × ((Nat → Int32)) × ((Nat → Int32)) × ((Nat → Int32)) × ((Nat → Int32))} (hret : ∀ (pc : Nat) (L : List (Nat × Value)) (v : Int32) (w : va_W), decode cX11_goYear pc = .ok (.ireturn, 1) → narrow .int (.int v) = .int v → (v = res.1 ∧ w = cw (g_E Γ) q r (gpl F) (gu o0 5 res.2.1) (gu (gu (gu A0 8 res.2.2.1) 9 res.2.2.2.1) 12 res.2.2.2.2.1) C0 h0 o1 A1 C1 h1 o2 A2 C2 h2 res.2.2.2.2.2.1 (gu (gu (gu (gu (gu gA 0 res.2.2.2.2.2.2.1) 1 res.2.2.2.2.2.2.2.1) 2 res.2.2.2.2.2.2.2.2.1) 3 res.2.2.2.2.2.2.2.2.2.1) 5 res.2.2.2.2.2.2.2.2.2.2) tb0 tA0 bf0 hi0) → gGO Γ 0 0 pc L [.int v] w) : ∀ (n : Nat) (w0o5 : Int32) (w0a8 : (Nat → Int32)) (w0a9 : (Nat → Int32)) (w0a12 : (Nat → Int32)) (gs : Int32) (ga0 : (Nat → Int32)) (ga1 : (Nat → Int32)) (ga2 : (Nat → Int32)) (ga3 : (Nat → Int32)) (ga5 : (Nat → Int32)) (x2 : Int32) (x3 : Int32) (x4 : Int32), pX11_goYear_w0_29 F (o0 0) (o0 1) (o0 6) (o0 7) (A0 10) (A0 11) h0 C0 n w0o5 w0a8 w0a9 w0a12 gs ga0 ga1 ga2 ga3 ga5 x2 x3 x4 = some res → gGO Γ 0 0 29 [(0, .ref (q 5)), (1, .ref (q 0)), (2, .int x2), (3, .int x3), (4, .int x4)] [] (cw (g_E Γ) q r (gpl F) (gu o0 5 w0o5) (gu (gu (gu A0 8 w0a8) 9 w0a9) 12 w0a12) C0 h0 o1 A1 C1 h1 o2 A2 C2 h2 gs (gu (gu (gu (gu (gu gA 0 ga0) 1 ga1) 2 ga2) 3 ga3) 5 ga5) tb0 tA0 bf0 hi0) := by
  intro n
  induction n with
  | zero => intro _ _ _ _ _ _ _ _ _ _ _ _ _ h; cases h
  | succ n ih =>
    intro w0o5 w0a8 w0a9 w0a12 gs ga0 ga1 ga2 ga3 ga5 x2 x3 x4 h
    simp only [pX11_goYear_w0_29] at h
    refine g_iload K dX11_goYear_29 4 rfl ?_
    refine g_aload_n K dX11_goYear_31 rfl 1 rfl ?_
    refine g_get (v := .int (o0 0)) (T := TX10) (ref := "ChiefGrades$World") K hin_X10 1 rfl rfl 0 (by decide) u_160 (Or.inl rfl) rfl dX11_goYear_32 ?_
    obtain ⟨ht9, hf9⟩ := gi_br h; clear h
    refine g_icmp_ge (tgt := 96) K dX11_goYear_35 (by decide) (fun qh => ?_) (fun qh => ?_)
    · have h := ht9 qh; clear ht9 hf9
      refine g_sub (L' := [(0, .ref (q 5)), (1, .ref (q 0)), (2, .int x2), (3, .int x3)]) [0, 1, 2, 3] rfl ?_
      exact wX11_goYear_w0_96 (C0 := C0) (h0 := h0) (C1 := C1) (h1 := h1) (C2 := C2) (h2 := h2) (gs0 := gs0) (tb0 := tb0) (tA0 := tA0) (bf0 := bf0) (hi0 := hi0) hF K hlt hRm hret w0o5 w0a8 w0a9 w0a12 gs ga0 ga1 ga2 ga3 ga5 x2 x3 h
    · have h := hf9 qh; clear ht9 hf9
      refine g_aload_n K dX11_goYear_38 rfl 0 rfl ?_
      refine g_get (v := .ref (q 3)) (T := TX11) (ref := "ChiefGrades") K hin_X11 0 rfl rfl 3 (by decide) u_327 (Or.inl rfl) rfl dX11_goYear_39 ?_
      refine g_get (v := .ref (r 3 0)) (T := TX1) (ref := "ChiefGrades$Grader") K hin_X1 4 rfl rfl 0 (by decide) u_287 (Or.inl rfl) rfl dX11_goYear_42 ?_
      refine g_iload K dX11_goYear_45 4 rfl ?_
      obtain ⟨b_1, h⟩ := gi_none h
      refine g_iald (f := ga0) K 36 rfl (ginb_in b_1) dX11_goYear_47 ?_
      obtain ⟨v_2, ev_2, h⟩ := gi_nm h
      refine g_topi ev_2 ?_
      refine g_istore (L' := [(5, .int v_2), (0, .ref (q 5)), (1, .ref (q 0)), (2, .int x2), (3, .int x3), (4, .int x4)]) K dX11_goYear_48 (hlt _ (by decide)) rfl ?_
      refine g_aload_n K dX11_goYear_50 rfl 2 rfl ?_
      refine g_get (v := .ref (r 0 12)) (T := TX10) (ref := "ChiefGrades$World") K hin_X10 1 rfl rfl 12 (by decide) u_190 (Or.inl rfl) rfl dX11_goYear_51 ?_
      refine g_iload K dX11_goYear_54 5 rfl ?_
      refine g_sipush (v := 9999) K dX11_goYear_56 (by decide) ?_
      refine g_aload_n K dX11_goYear_59 rfl 2 rfl ?_
      refine g_get (v := .ref (r 0 12)) (T := TX10) (ref := "ChiefGrades$World") K hin_X10 1 rfl rfl 12 (by decide) u_190 (Or.inl rfl) rfl dX11_goYear_60 ?_
      refine g_iload K dX11_goYear_63 5 rfl ?_
      obtain ⟨b_3, h⟩ := gi_none h
      refine g_iald (f := w0a12) K 10 rfl (ginb_in b_3) dX11_goYear_65 ?_
      refine g_aload_n K dX11_goYear_66 rfl 2 rfl ?_
      refine g_get (v := .ref h0) (T := TX10) (ref := "ChiefGrades$World") K hin_X10 1 rfl rfl 18 (by decide) u_203 (Or.inl rfl) rfl dX11_goYear_67 ?_
      obtain ⟨b_4, h⟩ := gi_none h
      refine hsg_2 K hF b_4 hin_X2 u_124 dX11_goYear_70 ?_
      refine g_iload K dX11_goYear_73 0 rfl ?_
      refine g_imul K dX11_goYear_75 ?_
      refine g_iadd K dX11_goYear_76 ?_
      refine g_mmin K u_795 u_112 u_71 u_113 hRm ⟨by decide, Nat.le_of_ble_eq_true rfl, by decide, by decide⟩ dX11_goYear_77 ?_
      obtain ⟨v_5, ev_5, h⟩ := gi_nm h
      refine g_topi ev_5 ?_
      obtain ⟨b_6, h⟩ := gi_none h
      obtain ⟨f_7, ef_7, h⟩ := gi_nm h
      refine g_iast (f := w0a12) (ws' := cw (g_E Γ) q r (gpl F) (gu o0 5 w0o5) (gu (gu (gu A0 8 w0a8) 9 w0a9) 12 f_7) C0 h0 o1 A1 C1 h1 o2 A2 C2 h2 gs (gu (gu (gu (gu (gu gA 0 ga0) 1 ga1) 2 ga2) 3 ga3) 5 ga5) tb0 tA0 bf0 hi0) K 10 rfl (ginb_in b_6) dX11_goYear_80 (by rw [ef_7]; rfl) ?_
      refine g_iload K dX11_goYear_81 0 rfl ?_
      refine g_iconst (v := 1) K dX11_goYear_83 (by decide) ?_
      obtain ⟨ht9, hf9⟩ := gi_br h; clear h
      refine g_icmp_ne (tgt := 90) K dX11_goYear_84 (by decide) (fun qh => ?_) (fun qh => ?_)
      · have h := hf9 qh; clear ht9 hf9
        refine g_iinc (v := (x4 + 1)) (L' := [(4, .int (x4 + 1)), (5, .int v_2), (0, .ref (q 5)), (1, .ref (q 0)), (2, .int x2), (3, .int x3)]) K dX11_goYear_90 5 rfl rfl (hlt _ (by decide)) rfl ?_
        refine g_goto (tgt := 29) K dX11_goYear_93 (by decide) ?_
        refine g_sub (L' := [(0, .ref (q 5)), (1, .ref (q 0)), (2, .int x2), (3, .int x3), (4, .int (x4 + 1))]) [2, 3, 4, 5, 0] rfl ?_
        exact ih w0o5 w0a8 w0a9 f_7 gs ga0 ga1 ga2 ga3 ga5 x2 x3 (x4 + 1) h
      · have h := ht9 qh; clear ht9 hf9
        refine g_iinc (v := (x3 + 1)) (L' := [(3, .int (x3 + 1)), (5, .int v_2), (0, .ref (q 5)), (1, .ref (q 0)), (2, .int x2), (4, .int x4)]) K dX11_goYear_87 4 rfl rfl (hlt _ (by decide)) rfl ?_
        refine g_iinc (v := (x4 + 1)) (L' := [(4, .int (x4 + 1)), (3, .int (x3 + 1)), (5, .int v_2), (0, .ref (q 5)), (1, .ref (q 0)), (2, .int x2)]) K dX11_goYear_90 5 rfl rfl (hlt _ (by decide)) rfl ?_
        refine g_goto (tgt := 29) K dX11_goYear_93 (by decide) ?_
        refine g_sub (L' := [(0, .ref (q 5)), (1, .ref (q 0)), (2, .int x2), (3, .int (x3 + 1)), (4, .int (x4 + 1))]) [3, 4, 5, 1, 0] rfl ?_
        exact ih w0o5 w0a8 w0a9 f_7 gs ga0 ga1 ga2 ga3 ga5 x2 (x3 + 1) (x4 + 1) h

set_option maxHeartbeats 4000000 in
set_option maxRecDepth 100000 in
theorem wX11_goYear_w0 {Γ : gT} {q : Nat → Nat} {r : Nat → Nat → Nat} {F : gF} (hF : gFz (g_E Γ) F) {o0 : Nat → Int32} {A0 : Nat → Nat → Int32} {C0 : Nat → Option Nat} {h0 : Nat} {o1 : Nat → Int32} {A1 : Nat → Nat → Int32} {C1 : Nat → Option Nat} {h1 : Nat} {o2 : Nat → Int32} {A2 : Nat → Nat → Int32} {C2 : Nat → Option Nat} {h2 : Nat} {gs0 : Int32} {gA : Nat → Nat → Int32} {tb0 : Int32} {tA0 bf0 : Nat → Int32} {hi0 : Int32} (K : gOK Γ cX11_goYear gU RX11) (hlt : ∀ i, i < 6 → i < g_n Γ) (hRm : g_R Γ = ({ frames := 10, cells := 0, slots := 0, locals := 283 } : Room)) {res : Int32 × Int32 × ((Nat → Int32)) × ((Nat → Int32)) × ((Nat → Int32)) × Int32 × ((Nat → Int32)) × ((Nat → Int32)) × ((Nat → Int32)) × ((Nat → Int32)) × ((Nat → Int32))} (hret : ∀ (pc : Nat) (L : List (Nat × Value)) (v : Int32) (w : va_W), decode cX11_goYear pc = .ok (.ireturn, 1) → narrow .int (.int v) = .int v → (v = res.1 ∧ w = cw (g_E Γ) q r (gpl F) (gu o0 5 res.2.1) (gu (gu (gu A0 8 res.2.2.1) 9 res.2.2.2.1) 12 res.2.2.2.2.1) C0 h0 o1 A1 C1 h1 o2 A2 C2 h2 res.2.2.2.2.2.1 (gu (gu (gu (gu (gu gA 0 res.2.2.2.2.2.2.1) 1 res.2.2.2.2.2.2.2.1) 2 res.2.2.2.2.2.2.2.2.1) 3 res.2.2.2.2.2.2.2.2.2.1) 5 res.2.2.2.2.2.2.2.2.2.2) tb0 tA0 bf0 hi0) → gGO Γ 0 0 pc L [.int v] w) (w0o5 : Int32) (w0a8 : (Nat → Int32)) (w0a9 : (Nat → Int32)) (w0a12 : (Nat → Int32)) (gs : Int32) (ga0 : (Nat → Int32)) (ga1 : (Nat → Int32)) (ga2 : (Nat → Int32)) (ga3 : (Nat → Int32)) (ga5 : (Nat → Int32)) (x2 : Int32) (h : pX11_goYear_w0 F (o0 0) (o0 1) (o0 6) (o0 7) (A0 10) (A0 11) h0 C0 w0o5 w0a8 w0a9 w0a12 gs ga0 ga1 ga2 ga3 ga5 x2 = some res) : gGO Γ 0 0 0 [(0, .ref (q 5)), (1, .ref (q 0)), (2, .int x2)] [] (cw (g_E Γ) q r (gpl F) (gu o0 5 w0o5) (gu (gu (gu A0 8 w0a8) 9 w0a9) 12 w0a12) C0 h0 o1 A1 C1 h1 o2 A2 C2 h2 gs (gu (gu (gu (gu (gu gA 0 ga0) 1 ga1) 2 ga2) 3 ga3) 5 ga5) tb0 tA0 bf0 hi0) := by
    unfold pX11_goYear_w0 at h
    refine g_iload_n K dX11_goYear_0 rfl 2 rfl ?_
    refine g_iconst (v := 3) K dX11_goYear_1 (by decide) ?_
    obtain ⟨ht9, hf9⟩ := gi_br h; clear h
    refine g_icmp_ne (tgt := 16) K dX11_goYear_2 (by decide) (fun qh => ?_) (fun qh => ?_)
    · have h := hf9 qh; clear ht9 hf9
      refine g_aload_n K dX11_goYear_16 rfl 0 rfl ?_
      refine g_get (v := .ref (q 3)) (T := TX11) (ref := "ChiefGrades") K hin_X11 0 rfl rfl 3 (by decide) u_327 (Or.inl rfl) rfl dX11_goYear_17 ?_
      refine g_aload_n K dX11_goYear_20 rfl 1 rfl ?_
      obtain ⟨z_1, hz_1, h⟩ := gi_bd h
      refine g_callVv (As := [.ref (q 0)]) (bytes := cX1_gradeAll) (maxL := 4) (ret := none) K (ctX1_gradeAll_w0 hF (gu o0 5 w0o5) (gu (gu (gu A0 8 w0a8) 9 w0a9) 12 w0a12) C0 h0 o1 A1 C1 h1 o2 A2 C2 h2 gs (gu (gu (gu (gu (gu gA 0 ga0) 1 ga1) 2 ga2) 3 ga3) 5 ga5) tb0 tA0 bf0 hi0 (res := z_1) hz_1) gc_V_RX11_171_X1_gradeAll rfl qv_X1_gradeAll 4 rfl rfl rfl hRm rfl rfl rfl (by decide) (Nat.le_of_ble_eq_true rfl) (by decide) dX11_goYear_21 (fun w hw => ?_)
      subst hw
      refine g_ws (ws' := cw (g_E Γ) q r (gpl F) (gu o0 5 w0o5) (gu (gu (gu A0 8 w0a8) 9 w0a9) 12 w0a12) C0 h0 o1 A1 C1 h1 o2 A2 C2 h2 z_1.1 (gu (gu (gu (gu (gu gA 0 z_1.2.1) 1 z_1.2.2.1) 2 z_1.2.2.2.1) 3 z_1.2.2.2.2.1) 5 z_1.2.2.2.2.2) tb0 tA0 bf0 hi0) rfl ?_
      refine g_iconst (v := 0) K dX11_goYear_24 (by decide) ?_
      refine g_istore_n (L' := [(3, .int 0), (0, .ref (q 5)), (1, .ref (q 0)), (2, .int x2)]) K dX11_goYear_25 rfl (hlt _ (by decide)) rfl ?_
      refine g_iconst (v := 0) K dX11_goYear_26 (by decide) ?_
      refine g_istore (L' := [(4, .int 0), (3, .int 0), (0, .ref (q 5)), (1, .ref (q 0)), (2, .int x2)]) K dX11_goYear_27 (hlt _ (by decide)) rfl ?_
      refine g_sub (L' := [(0, .ref (q 5)), (1, .ref (q 0)), (2, .int x2), (3, .int 0), (4, .int 0)]) [2, 3, 4, 1, 0] rfl ?_
      exact wX11_goYear_w0_29 (C0 := C0) (h0 := h0) (C1 := C1) (h1 := h1) (C2 := C2) (h2 := h2) (gs0 := gs0) (tb0 := tb0) (tA0 := tA0) (bf0 := bf0) (hi0 := hi0) hF K hlt hRm hret 1000 w0o5 w0a8 w0a9 w0a12 z_1.1 z_1.2.1 z_1.2.2.1 z_1.2.2.2.1 z_1.2.2.2.2.1 z_1.2.2.2.2.2 x2 0 0 h
    · have h := ht9 qh; clear ht9 hf9
      refine g_aload_n K dX11_goYear_5 rfl 0 rfl ?_
      refine g_get (v := .ref (q 3)) (T := TX11) (ref := "ChiefGrades") K hin_X11 0 rfl rfl 3 (by decide) u_327 (Or.inl rfl) rfl dX11_goYear_6 ?_
      refine g_aload_n K dX11_goYear_9 rfl 1 rfl ?_
      obtain ⟨z_2, hz_2, h⟩ := gi_bd h
      refine g_callVv (As := [.ref (q 0)]) (bytes := cX1_gradeDue) (maxL := 3) (ret := none) K (ctX1_gradeDue_w0 hF (gu o0 5 w0o5) (gu (gu (gu A0 8 w0a8) 9 w0a9) 12 w0a12) C0 h0 o1 A1 C1 h1 o2 A2 C2 h2 gs (gu (gu (gu (gu (gu gA 0 ga0) 1 ga1) 2 ga2) 3 ga3) 5 ga5) tb0 tA0 bf0 hi0 (res := z_2) hz_2) gc_V_RX11_134_X1_gradeDue rfl qv_X1_gradeDue 4 rfl rfl rfl hRm rfl rfl rfl (by decide) (Nat.le_of_ble_eq_true rfl) (by decide) dX11_goYear_10 (fun w hw => ?_)
      subst hw
      refine g_ws (ws' := cw (g_E Γ) q r (gpl F) (gu o0 5 w0o5) (gu (gu (gu A0 8 w0a8) 9 w0a9) 12 w0a12) C0 h0 o1 A1 C1 h1 o2 A2 C2 h2 z_2.1 (gu (gu (gu (gu (gu gA 0 z_2.2.1) 1 z_2.2.2.1) 2 z_2.2.2.2.1) 3 z_2.2.2.2.2) 5 ga5) tb0 tA0 bf0 hi0) rfl ?_
      refine g_goto (tgt := 24) K dX11_goYear_13 (by decide) ?_
      refine g_iconst (v := 0) K dX11_goYear_24 (by decide) ?_
      refine g_istore_n (L' := [(3, .int 0), (0, .ref (q 5)), (1, .ref (q 0)), (2, .int x2)]) K dX11_goYear_25 rfl (hlt _ (by decide)) rfl ?_
      refine g_iconst (v := 0) K dX11_goYear_26 (by decide) ?_
      refine g_istore (L' := [(4, .int 0), (3, .int 0), (0, .ref (q 5)), (1, .ref (q 0)), (2, .int x2)]) K dX11_goYear_27 (hlt _ (by decide)) rfl ?_
      refine g_sub (L' := [(0, .ref (q 5)), (1, .ref (q 0)), (2, .int x2), (3, .int 0), (4, .int 0)]) [2, 3, 4, 1, 0] rfl ?_
      exact wX11_goYear_w0_29 (C0 := C0) (h0 := h0) (C1 := C1) (h1 := h1) (C2 := C2) (h2 := h2) (gs0 := gs0) (tb0 := tb0) (tA0 := tA0) (bf0 := bf0) (hi0 := hi0) hF K hlt hRm hret 1000 w0o5 w0a8 w0a9 w0a12 z_2.1 z_2.2.1 z_2.2.2.1 z_2.2.2.2.1 z_2.2.2.2.2 ga5 x2 0 0 h

set_option maxRecDepth 100000 in
theorem ctX11_goYear_w0 {E : gE} {q : Nat → Nat} {r : Nat → Nat → Nat} {F : gF} (hF : gFz E F) (o0 : Nat → Int32) (A0 : Nat → Nat → Int32) (C0 : Nat → Option Nat) (h0 : Nat) (o1 : Nat → Int32) (A1 : Nat → Nat → Int32) (C1 : Nat → Option Nat) (h1 : Nat) (o2 : Nat → Int32) (A2 : Nat → Nat → Int32) (C2 : Nat → Option Nat) (h2 : Nat) (gs0 : Int32) (gA : Nat → Nat → Int32) (tb0 : Int32) (tA0 bf0 : Nat → Int32) (hi0 : Int32) (x2 : Int32) {res : Int32 × Int32 × ((Nat → Int32)) × ((Nat → Int32)) × ((Nat → Int32)) × Int32 × ((Nat → Int32)) × ((Nat → Int32)) × ((Nat → Int32)) × ((Nat → Int32)) × ((Nat → Int32))} (h : pX11_goYear_w0 F (o0 0) (o0 1) (o0 6) (o0 7) (A0 10) (A0 11) h0 C0 (o0 5) (A0 8) (A0 9) (A0 12) gs0 (gA 0) (gA 1) (gA 2) (gA 3) (gA 5) x2 = some res) : gMi yX11_goYear (.code yX11_goYear cX11_goYear 6 (some .int) :: gU) ({ frames := 10, cells := 0, slots := 0, locals := 283 } : Room) 0 0 E [.ref (q 5), .ref (q 0), .int x2] (cw E q r (gpl F) o0 A0 C0 h0 o1 A1 C1 h1 o2 A2 C2 h2 gs0 gA tb0 tA0 bf0 hi0) (fun v w => v = res.1 ∧ w = cw E q r (gpl F) (gu o0 5 res.2.1) (gu (gu (gu A0 8 res.2.2.1) 9 res.2.2.2.1) 12 res.2.2.2.2.1) C0 h0 o1 A1 C1 h1 o2 A2 C2 h2 res.2.2.2.2.2.1 (gu (gu (gu (gu (gu gA 0 res.2.2.2.2.2.2.1) 1 res.2.2.2.2.2.2.2.1) 2 res.2.2.2.2.2.2.2.2.1) 3 res.2.2.2.2.2.2.2.2.2.1) 5 res.2.2.2.2.2.2.2.2.2.2) tb0 tA0 bf0 hi0) := by
  refine g_met_i (by decide +kernel) (Nat.le_of_ble_eq_true rfl) (fun Γ K hn hE hRm _ hret => ?_)
  subst hE
  have hlt : ∀ i, i < 6 → i < g_n Γ := fun i q => by rw [hn]; exact q
  refine g_ws (ws' := cw (g_E Γ) q r (gpl F) (gu o0 5 (o0 5)) (gu (gu (gu A0 8 (A0 8)) 9 (A0 9)) 12 (A0 12)) C0 h0 o1 A1 C1 h1 o2 A2 C2 h2 gs0 (gu (gu (gu (gu (gu gA 0 (gA 0)) 1 (gA 1)) 2 (gA 2)) 3 (gA 3)) 5 (gA 5)) tb0 tA0 bf0 hi0) rfl ?_
  refine g_sub (L' := [(0, .ref (q 5)), (1, .ref (q 0)), (2, .int x2)]) [0, 1, 2] rfl ?_
  exact wX11_goYear_w0 (C0 := C0) (h0 := h0) (C1 := C1) (h1 := h1) (C2 := C2) (h2 := h2) (gs0 := gs0) (tb0 := tb0) (tA0 := tA0) (bf0 := bf0) (hi0 := hi0) hF K hlt hRm hret (o0 5) (A0 8) (A0 9) (A0 12) gs0 (gA 0) (gA 1) (gA 2) (gA 3) (gA 5) x2 h

set_option maxHeartbeats 4000000 in
set_option maxRecDepth 100000 in
theorem wX11_year {Γ : gT} {q : Nat → Nat} {r : Nat → Nat → Nat} {F : gF} (hF : gFz (g_E Γ) F) {o0 : Nat → Int32} {A0 : Nat → Nat → Int32} {C0 : Nat → Option Nat} {h0 : Nat} {o1 : Nat → Int32} {A1 : Nat → Nat → Int32} {C1 : Nat → Option Nat} {h1 : Nat} {o2 : Nat → Int32} {A2 : Nat → Nat → Int32} {C2 : Nat → Option Nat} {h2 : Nat} {gs0 : Int32} {gA : Nat → Nat → Int32} {tb0 : Int32} {tA0 bf0 : Nat → Int32} {hi0 : Int32} (K : gOK Γ cX11_year gU RX11) (hlt : ∀ i, i < 1 → i < g_n Γ) (hRm : g_R Γ = ({ frames := 11, cells := 0, slots := 0, locals := 308 } : Room)) {res : Int32 × Int32 × ((Nat → Int32)) × ((Nat → Int32)) × ((Nat → Int32)) × Int32 × ((Nat → Int32)) × ((Nat → Int32)) × ((Nat → Int32)) × ((Nat → Int32)) × ((Nat → Int32))} (hret : ∀ (pc : Nat) (L : List (Nat × Value)) (v : Int32) (w : va_W), decode cX11_year pc = .ok (.ireturn, 1) → narrow .int (.int v) = .int v → (v = res.1 ∧ w = cw (g_E Γ) q r (gpl F) (gu o0 5 res.2.1) (gu (gu (gu A0 8 res.2.2.1) 9 res.2.2.2.1) 12 res.2.2.2.2.1) C0 h0 o1 A1 C1 h1 o2 A2 C2 h2 res.2.2.2.2.2.1 (gu (gu (gu (gu (gu gA 0 res.2.2.2.2.2.2.1) 1 res.2.2.2.2.2.2.2.1) 2 res.2.2.2.2.2.2.2.2.1) 3 res.2.2.2.2.2.2.2.2.2.1) 5 res.2.2.2.2.2.2.2.2.2.2) tb0 tA0 bf0 hi0) → gGO Γ 0 0 pc L [.int v] w) (w0o5 : Int32) (w0a8 : (Nat → Int32)) (w0a9 : (Nat → Int32)) (w0a12 : (Nat → Int32)) (gs : Int32) (ga0 : (Nat → Int32)) (ga1 : (Nat → Int32)) (ga2 : (Nat → Int32)) (ga3 : (Nat → Int32)) (ga5 : (Nat → Int32)) (h : pX11_year F (o0 0) (o0 1) (o0 6) (o0 7) (A0 10) (A0 11) h0 C0 w0o5 w0a8 w0a9 w0a12 gs ga0 ga1 ga2 ga3 ga5 = some res) : gGO Γ 0 0 0 [(0, .ref (q 5))] [] (cw (g_E Γ) q r (gpl F) (gu o0 5 w0o5) (gu (gu (gu A0 8 w0a8) 9 w0a9) 12 w0a12) C0 h0 o1 A1 C1 h1 o2 A2 C2 h2 gs (gu (gu (gu (gu (gu gA 0 ga0) 1 ga1) 2 ga2) 3 ga3) 5 ga5) tb0 tA0 bf0 hi0) := by
    unfold pX11_year at h
    refine g_aload_n K dX11_year_0 rfl 0 rfl ?_
    refine g_get (v := .ref (q 0)) (T := TX11) (ref := "ChiefGrades") K hin_X11 0 rfl rfl 0 (by decide) u_324 (Or.inl rfl) rfl dX11_year_1 ?_
    refine g_get (v := .int w0o5) (T := TX10) (ref := "ChiefGrades$World") K hin_X10 1 rfl rfl 5 (by decide) u_172 (Or.inl rfl) rfl dX11_year_4 ?_
    refine g_bipush (v := 99) K dX11_year_7 (by decide) ?_
    obtain ⟨ht9, hf9⟩ := gi_br h; clear h
    refine g_icmp_lt (tgt := 15) K dX11_year_9 (by decide) (fun qh => ?_) (fun qh => ?_)
    · have h := ht9 qh; clear ht9 hf9
      refine g_aload_n K dX11_year_15 rfl 0 rfl ?_
      refine g_aload_n K dX11_year_16 rfl 0 rfl ?_
      refine g_get (v := .ref (q 0)) (T := TX11) (ref := "ChiefGrades") K hin_X11 0 rfl rfl 0 (by decide) u_324 (Or.inl rfl) rfl dX11_year_17 ?_
      refine g_iconst (v := 0) K dX11_year_20 (by decide) ?_
      obtain ⟨z_1, hz_1, h⟩ := gi_bd h
      refine g_callVi (As := [.ref (q 0), .int 0]) (bytes := cX11_goYear) (maxL := 6) (ret := (some .int)) K (ctX11_goYear_w0 hF (gu o0 5 w0o5) (gu (gu (gu A0 8 w0a8) 9 w0a9) 12 w0a12) C0 h0 o1 A1 C1 h1 o2 A2 C2 h2 gs (gu (gu (gu (gu (gu gA 0 ga0) 1 ga1) 2 ga2) 3 ga3) 5 ga5) tb0 tA0 bf0 hi0 0 (res := z_1) hz_1) gc_V_RX11_191_X11_goYear rfl qv_X11_goYear 0 rfl rfl rfl hRm rfl rfl rfl (by decide) (Nat.le_of_ble_eq_true rfl) (by decide) dX11_year_21 (fun v w hw => ?_)
      obtain ⟨hv9, rfl⟩ := hw; have hv9 := hv9.symm; subst hv9
      refine g_ws (ws' := cw (g_E Γ) q r (gpl F) (gu o0 5 z_1.2.1) (gu (gu (gu A0 8 z_1.2.2.1) 9 z_1.2.2.2.1) 12 z_1.2.2.2.2.1) C0 h0 o1 A1 C1 h1 o2 A2 C2 h2 z_1.2.2.2.2.2.1 (gu (gu (gu (gu (gu gA 0 z_1.2.2.2.2.2.2.1) 1 z_1.2.2.2.2.2.2.2.1) 2 z_1.2.2.2.2.2.2.2.2.1) 3 z_1.2.2.2.2.2.2.2.2.2.1) 5 z_1.2.2.2.2.2.2.2.2.2.2) tb0 tA0 bf0 hi0) rfl ?_
      obtain rfl := Option.some.inj h
      exact hret _ _ _ _ dX11_year_24 rfl ⟨rfl, rfl⟩
    · have h := hf9 qh; clear ht9 hf9
      refine g_bipush (v := (-3)) K dX11_year_12 (by decide) ?_
      obtain rfl := Option.some.inj h
      exact hret _ _ _ _ dX11_year_14 rfl ⟨rfl, rfl⟩

set_option maxRecDepth 100000 in
theorem ctX11_year {E : gE} {q : Nat → Nat} {r : Nat → Nat → Nat} {F : gF} (hF : gFz E F) (o0 : Nat → Int32) (A0 : Nat → Nat → Int32) (C0 : Nat → Option Nat) (h0 : Nat) (o1 : Nat → Int32) (A1 : Nat → Nat → Int32) (C1 : Nat → Option Nat) (h1 : Nat) (o2 : Nat → Int32) (A2 : Nat → Nat → Int32) (C2 : Nat → Option Nat) (h2 : Nat) (gs0 : Int32) (gA : Nat → Nat → Int32) (tb0 : Int32) (tA0 bf0 : Nat → Int32) (hi0 : Int32) {res : Int32 × Int32 × ((Nat → Int32)) × ((Nat → Int32)) × ((Nat → Int32)) × Int32 × ((Nat → Int32)) × ((Nat → Int32)) × ((Nat → Int32)) × ((Nat → Int32)) × ((Nat → Int32))} (h : pX11_year F (o0 0) (o0 1) (o0 6) (o0 7) (A0 10) (A0 11) h0 C0 (o0 5) (A0 8) (A0 9) (A0 12) gs0 (gA 0) (gA 1) (gA 2) (gA 3) (gA 5) = some res) : gMi yX11_year (.code yX11_year cX11_year 1 (some .int) :: gU) ({ frames := 11, cells := 0, slots := 0, locals := 308 } : Room) 0 0 E [.ref (q 5)] (cw E q r (gpl F) o0 A0 C0 h0 o1 A1 C1 h1 o2 A2 C2 h2 gs0 gA tb0 tA0 bf0 hi0) (fun v w => v = res.1 ∧ w = cw E q r (gpl F) (gu o0 5 res.2.1) (gu (gu (gu A0 8 res.2.2.1) 9 res.2.2.2.1) 12 res.2.2.2.2.1) C0 h0 o1 A1 C1 h1 o2 A2 C2 h2 res.2.2.2.2.2.1 (gu (gu (gu (gu (gu gA 0 res.2.2.2.2.2.2.1) 1 res.2.2.2.2.2.2.2.1) 2 res.2.2.2.2.2.2.2.2.1) 3 res.2.2.2.2.2.2.2.2.2.1) 5 res.2.2.2.2.2.2.2.2.2.2) tb0 tA0 bf0 hi0) := by
  refine g_met_i (by decide +kernel) (Nat.le_of_ble_eq_true rfl) (fun Γ K hn hE hRm _ hret => ?_)
  subst hE
  have hlt : ∀ i, i < 1 → i < g_n Γ := fun i q => by rw [hn]; exact q
  refine g_ws (ws' := cw (g_E Γ) q r (gpl F) (gu o0 5 (o0 5)) (gu (gu (gu A0 8 (A0 8)) 9 (A0 9)) 12 (A0 12)) C0 h0 o1 A1 C1 h1 o2 A2 C2 h2 gs0 (gu (gu (gu (gu (gu gA 0 (gA 0)) 1 (gA 1)) 2 (gA 2)) 3 (gA 3)) 5 (gA 5)) tb0 tA0 bf0 hi0) rfl ?_
  refine g_sub (L' := [(0, .ref (q 5))]) [0] rfl ?_
  exact wX11_year (C0 := C0) (h0 := h0) (C1 := C1) (h1 := h1) (C2 := C2) (h2 := h2) (gs0 := gs0) (tb0 := tb0) (tA0 := tA0) (bf0 := bf0) (hi0 := hi0) hF K hlt hRm hret (o0 5) (A0 8) (A0 9) (A0 12) gs0 (gA 0) (gA 1) (gA 2) (gA 3) (gA 5) h

