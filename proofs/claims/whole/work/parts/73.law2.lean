/-! the law's cases that make objects; written by wip/whole/mach/law2.py -/
theorem gfz_in {E : gE} {fl : va_W} (h0 : ∀ a, gfz E a = none) {x : Nat} {e : va_E} (h : gfz (gExt E fl) x = some e) : (x, e) ∈ fl := by
  have h : (match gLk fl x with | some e => some e | none => gfz E x) = some e := h
  cases hl : gLk fl x with
  | none => rw [hl, h0] at h; cases h
  | some e' =>
    rw [hl] at h
    rw [← Option.some.inj h]
    exact gLk_in hl
def hIf (a b c d : Int32) : Nat → Int32
  | 0 => a
  | 1 => b
  | 2 => c
  | _ => d
def haf (a b c : Nat → Int32) : Nat → Nat → Int32
  | 7 => a
  | 8 => b
  | _ => c
theorem u_514 : Cond.methodLink RL 27 yX11_chief ∈ gU := gu_in (List.mem_of_getElem? (i := 514) (by decide +kernel)) rfl
theorem u_515 : Cond.instanceMethod yX11_chief ∈ gU := gu_in (List.mem_of_getElem? (i := 515) (by decide +kernel)) rfl
theorem u_516 : Cond.selects RX11 yX11_chief yX11_chief ∈ gU := gu_in (List.mem_of_getElem? (i := 516) (by decide +kernel)) rfl
theorem u_517 : Cond.code yX11_chief cX11_chief 4 (some .int) ∈ gU := gu_in (List.mem_of_getElem? (i := 517) (by decide +kernel)) rfl
theorem u_1123 : Cond.methodLink RL 31 yX12_chief ∈ gU := gu_in (List.mem_of_getElem? (i := 1123) (by decide +kernel)) rfl
theorem u_1124 : Cond.instanceMethod yX12_chief ∈ gU := gu_in (List.mem_of_getElem? (i := 1124) (by decide +kernel)) rfl
theorem u_1125 : Cond.selects RX12 yX12_chief yX12_chief ∈ gU := gu_in (List.mem_of_getElem? (i := 1125) (by decide +kernel)) rfl
theorem u_1126 : Cond.code yX12_chief cX12_chief 5 (some .int) ∈ gU := gu_in (List.mem_of_getElem? (i := 1126) (by decide +kernel)) rfl
theorem u_350 : Cond.methodLink RL 18 yX11_house ∈ gU := gu_in (List.mem_of_getElem? (i := 350) (by decide +kernel)) rfl
theorem u_351 : Cond.instanceMethod yX11_house ∈ gU := gu_in (List.mem_of_getElem? (i := 351) (by decide +kernel)) rfl
theorem u_352 : Cond.selects RX11 yX11_house yX11_house ∈ gU := gu_in (List.mem_of_getElem? (i := 352) (by decide +kernel)) rfl
theorem u_353 : Cond.code yX11_house cX11_house 3 (some .int) ∈ gU := gu_in (List.mem_of_getElem? (i := 353) (by decide +kernel)) rfl
theorem u_1054 : Cond.methodLink RL 22 yX12_house ∈ gU := gu_in (List.mem_of_getElem? (i := 1054) (by decide +kernel)) rfl
theorem u_1055 : Cond.instanceMethod yX12_house ∈ gU := gu_in (List.mem_of_getElem? (i := 1055) (by decide +kernel)) rfl
theorem u_1056 : Cond.selects RX12 yX12_house yX12_house ∈ gU := gu_in (List.mem_of_getElem? (i := 1056) (by decide +kernel)) rfl
theorem u_1057 : Cond.code yX12_house cX12_house 2 (some .int) ∈ gU := gu_in (List.mem_of_getElem? (i := 1057) (by decide +kernel)) rfl
theorem qv_X11_chief : yX11_chief.cls = RX11 ∧ yX11_chief.cls ≠ "java/lang/invoke/MethodHandle" ∧ yX11_chief.cls ≠ "java/lang/invoke/VarHandle" ∧ (parseMethodDescriptor yX11_chief.desc).map (fun d => d.parameters.length) = some 3 := by decide +kernel
theorem qv_X11_house : yX11_house.cls = RX11 ∧ yX11_house.cls ≠ "java/lang/invoke/MethodHandle" ∧ yX11_house.cls ≠ "java/lang/invoke/VarHandle" ∧ (parseMethodDescriptor yX11_house.desc).map (fun d => d.parameters.length) = some 0 := by decide +kernel
set_option maxHeartbeats 4000000 in
set_option maxRecDepth 100000 in
theorem law_chief {Γ : gT} {b L : Nat} {xs : Nat → Int32} {q : Nat → Nat} {r : Nat → Nat → Nat} {m : Nat} {rm : Nat → Nat} (H : LK Γ b L xs) {i : Nat} (hi6 : i + 6 ≤ L) {cl sl : Nat} {ws : va_W} (hc : cl + 10 ≤ 600000) (hs : sl + 311 ≤ 7302250) (hLI : LI (g_E Γ) q r m rm ws) (kn : ∀ ws', LI (g_E Γ) q r m rm ws' → gGO Γ (cl + 10) (sl + 311) 1080 [(0, .ref b), (1, .ref (q 5)), (2, .ref m), (3, .int (nI i))] [] ws') : gGO Γ cl sl 227 [(0, .ref b), (1, .ref (q 5)), (2, .ref m), (3, .int (nI i))] [] ws := by
  obtain ⟨K, hRm, hn4, hfz, hX, hbl, hbA, hL⟩ := H
  obtain ⟨x1, hx1⟩ : ∃ x, xs (nI i + nI 1).toNatClampNeg = x := ⟨_, rfl⟩
  obtain ⟨x2, hx2⟩ : ∃ x, xs (nI i + nI 2).toNatClampNeg = x := ⟨_, rfl⟩
  obtain ⟨x3, hx3⟩ : ∃ x, xs (nI i + nI 3).toNatClampNeg = x := ⟨_, rfl⟩
  obtain ⟨F, fl, o0, A0, C0, h0, o1, A1, C1, h1, o2, A2, C2, h2, gs, gA, tb, tA, bf, hi, o, A, rfl, hF, hPL, hSW, hhi, hk2, ho4, hTR⟩ := hLI
  obtain ⟨⟨W, C, y, Hn, R, T, hS⟩, hR⟩ := id hSW
  obtain ⟨res, e1, hres⟩ := m_chief hS hR x1 x2 x3
  refine g_aload_n K dL_law_227 rfl 1 rfl ?_
  refine g_aload_n K dL_law_228 rfl 0 rfl ?_
  refine g_iload_n K dL_law_229 rfl 3 rfl ?_
  refine g_iconst (v := 1) K dL_law_230 (by decide) ?_
  refine g_iadd K dL_law_231 ?_
  refine gL_sld K hX hbl hbA (l_in hi6 hL (k := 1) (by decide)) hx1 dL_law_232 ?_
  refine g_aload_n K dL_law_233 rfl 0 rfl ?_
  refine g_iload_n K dL_law_234 rfl 3 rfl ?_
  refine g_iconst (v := 2) K dL_law_235 (by decide) ?_
  refine g_iadd K dL_law_236 ?_
  refine gL_sld K hX hbl hbA (l_in hi6 hL (k := 2) (by decide)) hx2 dL_law_237 ?_
  refine g_aload_n K dL_law_238 rfl 0 rfl ?_
  refine g_iload_n K dL_law_239 rfl 3 rfl ?_
  refine g_iconst (v := 3) K dL_law_240 (by decide) ?_
  refine g_iadd K dL_law_241 ?_
  refine gL_sld K hX hbl hbA (l_in hi6 hL (k := 3) (by decide)) hx3 dL_law_242 ?_
  rw [← cw_ext (fl := fl)]
  refine g_cutVi (As := [.int x1, .int x2, .int x3]) (bytes := cX11_chief) (maxL := 4) (ret := (some .int)) K fl (mw (g_E Γ) m rm o A) (ctX11_chief (E := gExt (g_E Γ) fl) (q := q) (r := r) hF o0 A0 C0 h0 o1 A1 C1 h1 o2 A2 C2 h2 gs gA tb tA bf hi x1 x2 x3 (res := res) e1) 0 rfl rfl rfl (gu_V u_514 u_515 u_516 u_68 u_517) rfl qv_X11_chief hRm rfl rfl rfl (by decide) (Nat.le_of_ble_eq_true rfl) ⟨by show cl + 1 ≤ 600000; omega, by show sl + 4 ≤ 7302250; omega⟩ dL_law_243 (fun v9 w9 hw => ?_)
  simp only [cw_ext] at hw
  rcases hw with ⟨z, hz, hv9, rfl⟩ | ⟨hz, kk, bb, hk7, hx1k, hv9, rfl⟩
  · rcases hres with ⟨z2, hz2, e2⟩ | ⟨hz2, _⟩
    · have hz3 := Option.some.inj (hz.symm.trans hz2)
      subst hz3
      subst hv9
      refine g_aload_n K dL_law_246 rfl 2 rfl ?_
      refine g_aload_n K dL_law_247 rfl 0 rfl ?_
      refine g_iload_n K dL_law_248 rfl 3 rfl ?_
      refine g_iconst (v := 1) K dL_law_249 (by decide) ?_
      refine g_iadd K dL_law_250 ?_
      refine gL_sld K hX hbl hbA (l_in hi6 hL (k := 1) (by decide)) hx1 dL_law_251 ?_
      refine g_aload_n K dL_law_252 rfl 0 rfl ?_
      refine g_iload_n K dL_law_253 rfl 3 rfl ?_
      refine g_iconst (v := 2) K dL_law_254 (by decide) ?_
      refine g_iadd K dL_law_255 ?_
      refine gL_sld K hX hbl hbA (l_in hi6 hL (k := 2) (by decide)) hx2 dL_law_256 ?_
      refine g_aload_n K dL_law_257 rfl 0 rfl ?_
      refine g_iload_n K dL_law_258 rfl 3 rfl ?_
      refine g_iconst (v := 3) K dL_law_259 (by decide) ?_
      refine g_iadd K dL_law_260 ?_
      refine gL_sld K hX hbl hbA (l_in hi6 hL (k := 3) (by decide)) hx3 dL_law_261 ?_
      refine g_r3 ?_
      rw [← mw_ext (fl := [])]
      refine g_cutVi (As := [.int x1, .int x2, .int x3]) (bytes := cX12_chief) (maxL := 5) (ret := (some .int)) K [] _ (ctX12_chief (E := gExt (g_E Γ) []) (m := m) (r := rm) o A x1 x2 x3 (res := (v9, A 1)) e2) 0 rfl rfl rfl (gu_V u_1123 u_1124 u_1125 u_75 u_1126) rfl qv_X12_chief hRm rfl rfl rfl (by decide) (Nat.le_of_ble_eq_true rfl) ⟨by show cl + 1 + 0 ≤ 600000; omega, by show sl + 4 + 0 ≤ 7302250; omega⟩ dL_law_262 (fun u9 w9 hw => ?_)
      obtain ⟨hv9, rfl⟩ := hw
      have hu : u9 = v9 := hv9
      subst hu
      rw [mw_ext]
      refine g_r4 ?_
      refine g_icmp_eq (tgt := 1080) K dL_law_265 (by decide) (fun _ => ?_) (fun qh => absurd rfl qh)
      exact g_wid (by omega) (by omega) (kn _ ⟨F, fl, _, _, _, _, _, _, _, _, _, _, _, _, _, _, _, _, _, _, _, _, rfl, hF, hPL, ⟨⟨W, C, y, Hn, R, T, hS⟩, hR⟩, hhi, hk2, ho4, hTR⟩)
    · rw [hz] at hz2; cases hz2
  · rcases hres with ⟨z2, hz2, _⟩ | ⟨_, hC4, k, v, d, hk, hv, hd, hk1, hv1, hd1⟩
    · rw [hz] at hz2; cases hz2
    · obtain ⟨-, e1o, -⟩ := wr_o hS hR
      have hkk : kk = k := by
        have := hx1k.symm.trans hk1
        rw [n_eq (by omega) (by omega)] at this
        exact this
      subst hkk
      have e1o1 : o0 1 + 1 = nI (C + 1) := by rw [e1o, nI_1]
      have e1o2 : (o0 1).toNatClampNeg = C := by rw [e1o, n_cl (by omega)]
      have hv9C : v9 = nI C := hv9.trans (by rw [e1o1, show (1 : Int32) = nI 1 from rfl, pk_sub (by omega)]; rfl)
      clear hv9
      subst hv9C
      have e2 : pX12_chief (A 1) x1 x2 x3 = some (nI C, nc (A 1) C kk v d) := by rw [hk1, hv1, hd1]; exact r_chief hS hk hv hd hC4
      rw [List.append_assoc]
      refine g_dx (a := [(bb, .inr (gKc.getD kk 0, [.int (nI kk), .int (o0 1), .int x2, .int x3]))]) (fun hdx => ?_)
      refine g_rot (a := cw (g_E Γ) q r (gpl F) (gu o0 1 (o0 1 + 1)) A0 (va_up C0 (o0 1).toNatClampNeg (some bb)) h0 o1 A1 C1 h1 o2 A2 C2 h2 gs gA tb tA bf hi) (b := [(bb, .inr (gKc.getD kk 0, [.int (nI kk), .int (o0 1), .int x2, .int x3]))]) ?_
      refine g_ws (ws' := cw (g_E Γ) q r (gpl F) (gu o0 1 (o0 1 + 1)) A0 (va_up C0 (o0 1).toNatClampNeg (some bb)) h0 o1 A1 C1 h1 o2 A2 C2 h2 gs gA tb tA bf hi ++ (([(bb, .inr (gKc.getD kk 0, [.int (nI kk), .int (o0 1), .int x2, .int x3]))] ++ fl) ++ mw (g_E Γ) m rm o A)) rfl ?_
      refine g_ds (fun hds => ?_)
      have hdf : gDs ([(bb, .inr (gKc.getD kk 0, [.int (nI kk), .int (o0 1), .int x2, .int x3]))] ++ fl) := fun p hp q hq => hds p (List.mem_append_right _ (List.mem_append_left _ hp)) q (List.mem_append_right _ (List.mem_append_left _ hq))
      have hbb : ¬ chv F bb = true := fun z => by
        obtain ⟨j, -, -, z3⟩ := hF.1 bb z
        exact hdx (bb, .inr (gKc.getD kk 0, [.int (nI kk), .int (o0 1), .int x2, .int x3])) (List.mem_singleton.mpr rfl) _ (List.mem_append_right _ (List.mem_append_left _ (gfz_in hfz z3))) rfl
      have hFE : FE F (gAC F bb (nI kk) (o0 1) x2 x3) := gAC_fe hbb
      have hF2 : gFz (gExt (g_E Γ) ([(bb, .inr (gKc.getD kk 0, [.int (nI kk), .int (o0 1), .int x2, .int x3]))] ++ fl)) (gAC F bb (nI kk) (o0 1) x2 x3) := gAC_fz (j := kk) hk7 rfl (gFz_more hfz hdf hF) (gExt_at hdf (List.mem_append_left _ (List.mem_singleton.mpr rfl)))
      obtain ⟨a1, a2, a3, a4, a5⟩ := gAC_at (F := F) (B := bb) (k := nI kk) (n := o0 1) (v := x2) (d := x3)
      have hW := sw_chief hS (fe_wr hFE hR) hk hv hd hC4 (b := bb) ⟨a1, a2, a3.trans e1o, a4.trans hv1, a5.trans hd1⟩
      have hW2 : SW (gAC F bb (nI kk) (o0 1) x2 x3) (gu o0 1 (o0 1 + 1)) A0 (va_up C0 (o0 1).toNatClampNeg (some bb)) h0 (nc (A 1) C kk v d) := by rw [e1o1, e1o2]; exact hW
      refine g_aload_n K dL_law_246 rfl 2 rfl ?_
      refine g_aload_n K dL_law_247 rfl 0 rfl ?_
      refine g_iload_n K dL_law_248 rfl 3 rfl ?_
      refine g_iconst (v := 1) K dL_law_249 (by decide) ?_
      refine g_iadd K dL_law_250 ?_
      refine gL_sld K hX hbl hbA (l_in hi6 hL (k := 1) (by decide)) hx1 dL_law_251 ?_
      refine g_aload_n K dL_law_252 rfl 0 rfl ?_
      refine g_iload_n K dL_law_253 rfl 3 rfl ?_
      refine g_iconst (v := 2) K dL_law_254 (by decide) ?_
      refine g_iadd K dL_law_255 ?_
      refine gL_sld K hX hbl hbA (l_in hi6 hL (k := 2) (by decide)) hx2 dL_law_256 ?_
      refine g_aload_n K dL_law_257 rfl 0 rfl ?_
      refine g_iload_n K dL_law_258 rfl 3 rfl ?_
      refine g_iconst (v := 3) K dL_law_259 (by decide) ?_
      refine g_iadd K dL_law_260 ?_
      refine gL_sld K hX hbl hbA (l_in hi6 hL (k := 3) (by decide)) hx3 dL_law_261 ?_
      refine g_r3 ?_
      rw [← mw_ext (fl := [])]
      refine g_cutVi (As := [.int x1, .int x2, .int x3]) (bytes := cX12_chief) (maxL := 5) (ret := (some .int)) K [] _ (ctX12_chief (E := gExt (g_E Γ) []) (m := m) (r := rm) o A x1 x2 x3 (res := (nI C, nc (A 1) C kk v d)) e2) 0 rfl rfl rfl (gu_V u_1123 u_1124 u_1125 u_75 u_1126) rfl qv_X12_chief hRm rfl rfl rfl (by decide) (Nat.le_of_ble_eq_true rfl) ⟨by show cl + 1 + 0 ≤ 600000; omega, by show sl + 4 + 0 ≤ 7302250; omega⟩ dL_law_262 (fun u9 w9 hw => ?_)
      obtain ⟨hv9, rfl⟩ := hw
      have hu : u9 = nI C := hv9
      subst hu
      rw [mw_ext]
      refine g_r4 ?_
      refine g_icmp_eq (tgt := 1080) K dL_law_265 (by decide) (fun _ => ?_) (fun qh => absurd rfl qh)
      exact g_wid (by omega) (by omega) (kn _ ⟨gAC F bb (nI kk) (o0 1) x2 x3, [(bb, .inr (gKc.getD kk 0, [.int (nI kk), .int (o0 1), .int x2, .int x3]))] ++ fl, (gu o0 1 (o0 1 + 1)), A0, (va_up C0 (o0 1).toNatClampNeg (some bb)), h0, o1, A1, C1, h1, o2, A2, C2, h2, gs, gA, tb, tA, bf, hi, o, (gu A 1 (nc (A 1) C kk v d)), rfl, hF2, fe_pl hFE hPL, hW2, hhi, fun z => fe_sw hFE (hk2 z), ho4, hTR⟩)

set_option maxHeartbeats 4000000 in
set_option maxRecDepth 100000 in
theorem law_house {Γ : gT} {b L : Nat} {xs : Nat → Int32} {q : Nat → Nat} {r : Nat → Nat → Nat} {m : Nat} {rm : Nat → Nat} (H : LK Γ b L xs) {i : Nat} (hi6 : i + 6 ≤ L) {cl sl : Nat} {ws : va_W} (hc : cl + 10 ≤ 600000) (hs : sl + 311 ≤ 7302250) (hLI : LI (g_E Γ) q r m rm ws) (kn : ∀ ws', LI (g_E Γ) q r m rm ws' → gGO Γ (cl + 10) (sl + 311) 1080 [(0, .ref b), (1, .ref (q 5)), (2, .ref m), (3, .int (nI i))] [] ws') : gGO Γ cl sl 191 [(0, .ref b), (1, .ref (q 5)), (2, .ref m), (3, .int (nI i))] [] ws := by
  obtain ⟨K, hRm, hn4, hfz, hX, hbl, hbA, hL⟩ := H
  obtain ⟨F, fl, o0, A0, C0, h0, o1, A1, C1, h1, o2, A2, C2, h2, gs, gA, tb, tA, bf, hi, o, A, rfl, hF, hPL, hSW, hhi, hk2, ho4, hTR⟩ := hLI
  obtain ⟨⟨W, C, y, Hn, R, T, hS⟩, hR⟩ := id hSW
  obtain ⟨-, -, e2o, -, e4o, -⟩ := wr_o hS hR
  have hT100 : T ≤ 100 := hS.2.2.2.2.2.2.2.1
  rcases m_house hS hR (o 5) (o 6) (o 7) (o 8) (o 9) with ⟨hH5, e2⟩ | ⟨hH5, rc, rr, e1, e2, hcase⟩
  · have h25 : ¬ o0 2 < 5 := by rw [e2o, hH5]; decide
    refine g_aload_n K dL_law_191 rfl 1 rfl ?_
    rw [← cw_ext (fl := fl)]
    refine g_cutVi (As := []) (bytes := cX11_house) (maxL := 3) (ret := (some .int)) K fl (mw (g_E Γ) m rm o A) (ctX11_house (E := gExt (g_E Γ) fl) (q := q) (r := r) hF o0 A0 C0 h0 o1 A1 C1 h1 o2 A2 C2 h2 gs gA tb tA bf hi (T := T) (res := (0, (fun _ => 0), (fun _ => 0), (fun _ => 0), 0, 0, 0, 0, 0, 0)) e4o hT100 (fun z => absurd z h25)) 0 rfl rfl rfl (gu_V u_350 u_351 u_352 u_68 u_353) rfl qv_X11_house hRm rfl rfl rfl (by decide) (Nat.le_of_ble_eq_true rfl) ⟨by show cl + 4 ≤ 600000; omega, by show sl + 311 ≤ 7302250; omega⟩ dL_law_192 (fun v9 w9 hw => ?_)
    simp only [cw_ext] at hw
    rcases hw with ⟨hn5, hv9, rfl⟩ | ⟨hn5, (⟨g1, hv9, rfl⟩ | ⟨g1, hv9, hh, aa, bb, cc, rfl⟩)⟩
    · have hv : v9 = -4 := hv9
      clear hv9
      subst hv
      refine g_aload_n K dL_law_195 rfl 2 rfl ?_
      refine g_r3 ?_
      rw [← mw_ext (fl := [])]
      refine g_cutVi (As := []) (bytes := cX12_house) (maxL := 2) (ret := (some .int)) K [] _ (ctX12_house (E := gExt (g_E Γ) []) (m := m) (r := rm) o A (res := (-4, A 1, o 5, o 6, o 7, o 8, o 9)) e2) 0 rfl rfl rfl (gu_V u_1054 u_1055 u_1056 u_75 u_1057) rfl qv_X12_house hRm rfl rfl rfl (by decide) (Nat.le_of_ble_eq_true rfl) ⟨by show cl + 4 + 0 ≤ 600000; omega, by show sl + 311 + 0 ≤ 7302250; omega⟩ dL_law_196 (fun u9 w9 hw => ?_)
      obtain ⟨hv9, rfl⟩ := hw
      have hu : u9 = -4 := hv9
      subst hu
      rw [mw_ext]
      refine g_r4 ?_
      refine g_icmp_eq (tgt := 1080) K dL_law_199 (by decide) (fun _ => ?_) (fun qh => absurd rfl qh)
      exact g_wid (by omega) (by omega) (kn _ ⟨F, fl, _, _, _, _, _, _, _, _, _, _, _, _, _, _, _, _, _, _, _, _, rfl, hF, hPL, ⟨⟨W, C, y, Hn, R, T, hS⟩, hR⟩, hhi, hk2, ho4, hTR⟩)
    · exact absurd hn5 h25
    · exact absurd hn5 h25
  · have h25 : o0 2 < 5 := by rw [e2o, n_lit, n_lt (by omega) (by omega)]; exact hH5
    refine g_aload_n K dL_law_191 rfl 1 rfl ?_
    rw [← cw_ext (fl := fl)]
    refine g_cutVi (As := []) (bytes := cX11_house) (maxL := 3) (ret := (some .int)) K fl (mw (g_E Γ) m rm o A) (ctX11_house (E := gExt (g_E Γ) fl) (q := q) (r := r) hF o0 A0 C0 h0 o1 A1 C1 h1 o2 A2 C2 h2 gs gA tb tA bf hi (T := T) (res := rc) e4o hT100 (fun _ => e1)) 0 rfl rfl rfl (gu_V u_350 u_351 u_352 u_68 u_353) rfl qv_X11_house hRm rfl rfl rfl (by decide) (Nat.le_of_ble_eq_true rfl) ⟨by show cl + 4 ≤ 600000; omega, by show sl + 311 ≤ 7302250; omega⟩ dL_law_192 (fun v9 w9 hw => ?_)
    simp only [cw_ext] at hw
    rcases hw with ⟨hn5, hv9, rfl⟩ | ⟨hn5, (⟨g1, hv9, rfl⟩ | ⟨g1, hv9, hh, aa, bb, cc, rfl⟩)⟩
    · exact absurd h25 hn5
    · rcases hcase with ⟨c1, c2, hW⟩ | ⟨c1, _⟩
      · have hvr : v9 = rr.1 := hv9.trans c2.symm
        clear hv9
        refine g_aload_n K dL_law_195 rfl 2 rfl ?_
        refine g_r3 ?_
        rw [← mw_ext (fl := [])]
        refine g_cutVi (As := []) (bytes := cX12_house) (maxL := 2) (ret := (some .int)) K [] _ (ctX12_house (E := gExt (g_E Γ) []) (m := m) (r := rm) o A (res := rr) e2) 0 rfl rfl rfl (gu_V u_1054 u_1055 u_1056 u_75 u_1057) rfl qv_X12_house hRm rfl rfl rfl (by decide) (Nat.le_of_ble_eq_true rfl) ⟨by show cl + 4 + 0 ≤ 600000; omega, by show sl + 311 + 0 ≤ 7302250; omega⟩ dL_law_196 (fun u9 w9 hw => ?_)
        obtain ⟨hv9, rfl⟩ := hw
        have hu : u9 = v9 := hv9.trans hvr.symm
        subst hu
        rw [mw_ext]
        refine g_r4 ?_
        refine g_icmp_eq (tgt := 1080) K dL_law_199 (by decide) (fun _ => ?_) (fun qh => absurd rfl qh)
        exact g_wid (by omega) (by omega) (kn _ ⟨F, fl, _, _, _, _, _, _, _, _, _, _, _, _, _, _, _, _, _, _, _, _, rfl, hF, hPL, hW, hhi, hk2, ho4, hTR⟩)
      · exact absurd c1 g1
    · rcases hcase with ⟨c1, _⟩ | ⟨_, c2, hcase⟩
      · exact absurd g1 c1
      · have hvr : v9 = rr.1 := hv9.trans c2.symm
        clear hv9
        refine g_ws (ws' := ([(hh, .inr (2, [.int (rc.2.2.2.2.1), .int (rc.2.2.2.2.2.1), .int (rc.2.2.2.2.2.2.1), .ref (r 0 17), .int (nI T), .int (rc.2.2.2.2.2.2.2.1), .int (rc.2.2.2.2.2.2.2.2.1), .ref aa, .ref bb, .ref cc, .int (rc.2.2.2.2.2.2.2.2.2)])), (aa, .inl (gI (g_E Γ), T, .inl (rc.2.1))), (bb, .inl (gI (g_E Γ), T, .inl (rc.2.2.1))), (cc, .inl (gI (g_E Γ), T, .inl (rc.2.2.2.1)))] ++ cw (g_E Γ) q r (gpl F) (gu (gu o0 4 0) 2 (o0 2 + 1)) A0 C0 hh o1 A1 C1 h1 o2 A2 C2 h2 gs gA tb tA bf hi) ++ (fl ++ mw (g_E Γ) m rm o A)) rfl ?_
        rw [List.append_assoc]
        refine g_dx (a := [(hh, .inr (2, [.int (rc.2.2.2.2.1), .int (rc.2.2.2.2.2.1), .int (rc.2.2.2.2.2.2.1), .ref (r 0 17), .int (nI T), .int (rc.2.2.2.2.2.2.2.1), .int (rc.2.2.2.2.2.2.2.2.1), .ref aa, .ref bb, .ref cc, .int (rc.2.2.2.2.2.2.2.2.2)])), (aa, .inl (gI (g_E Γ), T, .inl (rc.2.1))), (bb, .inl (gI (g_E Γ), T, .inl (rc.2.2.1))), (cc, .inl (gI (g_E Γ), T, .inl (rc.2.2.2.1)))]) (fun hdx => ?_)
        refine g_rot (a := cw (g_E Γ) q r (gpl F) (gu (gu o0 4 0) 2 (o0 2 + 1)) A0 C0 hh o1 A1 C1 h1 o2 A2 C2 h2 gs gA tb tA bf hi) (b := [(hh, .inr (2, [.int (rc.2.2.2.2.1), .int (rc.2.2.2.2.2.1), .int (rc.2.2.2.2.2.2.1), .ref (r 0 17), .int (nI T), .int (rc.2.2.2.2.2.2.2.1), .int (rc.2.2.2.2.2.2.2.2.1), .ref aa, .ref bb, .ref cc, .int (rc.2.2.2.2.2.2.2.2.2)])), (aa, .inl (gI (g_E Γ), T, .inl (rc.2.1))), (bb, .inl (gI (g_E Γ), T, .inl (rc.2.2.1))), (cc, .inl (gI (g_E Γ), T, .inl (rc.2.2.2.1)))]) ?_
        refine g_ws (ws' := cw (g_E Γ) q r (gpl F) (gu (gu o0 4 0) 2 (o0 2 + 1)) A0 C0 hh o1 A1 C1 h1 o2 A2 C2 h2 gs gA tb tA bf hi ++ (([(hh, .inr (2, [.int (rc.2.2.2.2.1), .int (rc.2.2.2.2.2.1), .int (rc.2.2.2.2.2.2.1), .ref (r 0 17), .int (nI T), .int (rc.2.2.2.2.2.2.2.1), .int (rc.2.2.2.2.2.2.2.2.1), .ref aa, .ref bb, .ref cc, .int (rc.2.2.2.2.2.2.2.2.2)])), (aa, .inl (gI (g_E Γ), T, .inl (rc.2.1))), (bb, .inl (gI (g_E Γ), T, .inl (rc.2.2.1))), (cc, .inl (gI (g_E Γ), T, .inl (rc.2.2.2.1)))] ++ fl) ++ mw (g_E Γ) m rm o A)) rfl ?_
        refine g_ds (fun hds => ?_)
        have hdf : gDs ([(hh, .inr (2, [.int (rc.2.2.2.2.1), .int (rc.2.2.2.2.2.1), .int (rc.2.2.2.2.2.2.1), .ref (r 0 17), .int (nI T), .int (rc.2.2.2.2.2.2.2.1), .int (rc.2.2.2.2.2.2.2.2.1), .ref aa, .ref bb, .ref cc, .int (rc.2.2.2.2.2.2.2.2.2)])), (aa, .inl (gI (g_E Γ), T, .inl (rc.2.1))), (bb, .inl (gI (g_E Γ), T, .inl (rc.2.2.1))), (cc, .inl (gI (g_E Γ), T, .inl (rc.2.2.2.1)))] ++ fl) := fun p hp q hq => hds p (List.mem_append_right _ (List.mem_append_left _ hp)) q (List.mem_append_right _ (List.mem_append_left _ hq))
        have hbb : ¬ hsv F hh = true := fun z => by
          obtain ⟨tx, sz, at_, fl9, z3⟩ := (hF.2 hh z).1
          exact hdx (hh, .inr (2, [.int (rc.2.2.2.2.1), .int (rc.2.2.2.2.2.1), .int (rc.2.2.2.2.2.2.1), .ref (r 0 17), .int (nI T), .int (rc.2.2.2.2.2.2.2.1), .int (rc.2.2.2.2.2.2.2.2.1), .ref aa, .ref bb, .ref cc, .int (rc.2.2.2.2.2.2.2.2.2)])) List.mem_cons_self _ (List.mem_append_right _ (List.mem_append_left _ (gfz_in hfz z3))) rfl
        have hFE : FE F (gAH F hh (hIf (rc.2.2.2.2.1) (rc.2.2.2.2.2.1) (rc.2.2.2.2.2.2.1) (rc.2.2.2.2.2.2.2.2.2)) (hRRf aa bb cc) (haf (rc.2.1) (rc.2.2.1) (rc.2.2.2.1)) T) := gAH_fe hbb
        have hF2 : gFz (gExt (g_E Γ) ([(hh, .inr (2, [.int (rc.2.2.2.2.1), .int (rc.2.2.2.2.2.1), .int (rc.2.2.2.2.2.2.1), .ref (r 0 17), .int (nI T), .int (rc.2.2.2.2.2.2.2.1), .int (rc.2.2.2.2.2.2.2.2.1), .ref aa, .ref bb, .ref cc, .int (rc.2.2.2.2.2.2.2.2.2)])), (aa, .inl (gI (g_E Γ), T, .inl (rc.2.1))), (bb, .inl (gI (g_E Γ), T, .inl (rc.2.2.1))), (cc, .inl (gI (g_E Γ), T, .inl (rc.2.2.2.1)))] ++ fl)) (gAH F hh (hIf (rc.2.2.2.2.1) (rc.2.2.2.2.2.1) (rc.2.2.2.2.2.2.1) (rc.2.2.2.2.2.2.2.2.2)) (hRRf aa bb cc) (haf (rc.2.1) (rc.2.2.1) (rc.2.2.2.1)) T) := gAH_fz (gFz_more hfz hdf hF) ⟨.ref (r 0 17), nI T, _, _, gExt_at hdf (List.mem_append_left _ List.mem_cons_self)⟩ (fun k hk => by
          rcases hk with rfl | rfl | rfl
          · exact gExt_at hdf (List.mem_append_left _ (List.mem_cons_of_mem _ List.mem_cons_self))
          · exact gExt_at hdf (List.mem_append_left _ (List.mem_cons_of_mem _ (List.mem_cons_of_mem _ List.mem_cons_self)))
          · exact gExt_at hdf (List.mem_append_left _ (List.mem_cons_of_mem _ (List.mem_cons_of_mem _ (List.mem_cons_of_mem _ List.mem_cons_self)))))
        obtain ⟨a1, a2, a3, a4, a5⟩ := gAH_at (F := F) (B := hh) (I := hIf (rc.2.2.2.2.1) (rc.2.2.2.2.2.1) (rc.2.2.2.2.2.2.1) (rc.2.2.2.2.2.2.2.2.2)) (R := hRRf aa bb cc) (a := haf (rc.2.1) (rc.2.2.1) (rc.2.2.2.1)) (N := T)
        have hW := hcase (gAH F hh (hIf (rc.2.2.2.2.1) (rc.2.2.2.2.2.1) (rc.2.2.2.2.2.2.1) (rc.2.2.2.2.2.2.2.2.2)) (hRRf aa bb cc) (haf (rc.2.1) (rc.2.2.1) (rc.2.2.2.1)) T) hh hFE a1 (a2 0) (a2 1) (a2 2) (a2 10) a5 (a4 7) (a4 8) (a4 9)
        refine g_aload_n K dL_law_195 rfl 2 rfl ?_
        refine g_r3 ?_
        rw [← mw_ext (fl := [])]
        refine g_cutVi (As := []) (bytes := cX12_house) (maxL := 2) (ret := (some .int)) K [] _ (ctX12_house (E := gExt (g_E Γ) []) (m := m) (r := rm) o A (res := rr) e2) 0 rfl rfl rfl (gu_V u_1054 u_1055 u_1056 u_75 u_1057) rfl qv_X12_house hRm rfl rfl rfl (by decide) (Nat.le_of_ble_eq_true rfl) ⟨by show cl + 4 + 0 ≤ 600000; omega, by show sl + 311 + 0 ≤ 7302250; omega⟩ dL_law_196 (fun u9 w9 hw => ?_)
        obtain ⟨hv9, rfl⟩ := hw
        have hu : u9 = v9 := hv9.trans hvr.symm
        subst hu
        rw [mw_ext]
        refine g_r4 ?_
        refine g_icmp_eq (tgt := 1080) K dL_law_199 (by decide) (fun _ => ?_) (fun qh => absurd rfl qh)
        exact g_wid (by omega) (by omega) (kn _ ⟨(gAH F hh (hIf (rc.2.2.2.2.1) (rc.2.2.2.2.2.1) (rc.2.2.2.2.2.2.1) (rc.2.2.2.2.2.2.2.2.2)) (hRRf aa bb cc) (haf (rc.2.1) (rc.2.2.1) (rc.2.2.2.1)) T), [(hh, .inr (2, [.int (rc.2.2.2.2.1), .int (rc.2.2.2.2.2.1), .int (rc.2.2.2.2.2.2.1), .ref (r 0 17), .int (nI T), .int (rc.2.2.2.2.2.2.2.1), .int (rc.2.2.2.2.2.2.2.2.1), .ref aa, .ref bb, .ref cc, .int (rc.2.2.2.2.2.2.2.2.2)])), (aa, .inl (gI (g_E Γ), T, .inl (rc.2.1))), (bb, .inl (gI (g_E Γ), T, .inl (rc.2.2.1))), (cc, .inl (gI (g_E Γ), T, .inl (rc.2.2.2.1)))] ++ fl, (gu (gu o0 4 0) 2 (o0 2 + 1)), A0, C0, hh, o1, A1, C1, h1, o2, A2, C2, h2, gs, gA, tb, tA, bf, hi, (gu (gu (gu (gu (gu o 5 rr.2.2.1) 6 rr.2.2.2.1) 7 rr.2.2.2.2.1) 8 rr.2.2.2.2.2.1) 9 rr.2.2.2.2.2.2), (gu A 1 rr.2.1), rfl, hF2, fe_pl hFE hPL, hW, hhi, fun z => fe_sw hFE (hk2 z), ho4, hTR⟩)
