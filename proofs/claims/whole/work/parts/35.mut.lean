/-! PURE SIDE: methods that change the row -/
section MUT
variable {F : gF} {o : Nat → Int32} {A : Nat → Nat → Int32} {Cf : Nat → Option Nat} {h : Nat} {s : Nat → Int32} {W C y Hn R T : Nat}
theorem gu_self {α : Type} (f : Nat → α) (k : Nat) : gu f k (f k) = f := by
  funext j
  by_cases e : j = k
  · subst e; exact gu_s
  · exact gu_n e
theorem wv_ag {t : Nat → Int32} {w C' : Nat} (hw : w < 10) (hg : ∀ k, k = 1 + w ∨ k = 11 + w ∨ k = 21 + w ∨ k = 31 + w ∨ k = 41 + w → t k = s k) (hC : C ≤ C') (hv : WV s C w) : WV t C' w := by
  obtain ⟨a, b, d, e, c, z1, z2, z3, z4, z5, e1, e2, e3, e4, e5⟩ := hv
  exact ⟨a, b, d, e, c, z1, z2, z3, z4, by omega, (hg _ (by omega)).trans e1, (hg _ (by omega)).trans e2, (hg _ (by omega)).trans e3, (hg _ (by omega)).trans e4, (hg _ (by omega)).trans e5⟩
theorem rv_ag {t : Nat → Int32} {W' C' r : Nat} (hg : ∀ k, k = 72 + r ∨ k = 92 + r ∨ k = 112 + r → t k = s k) (hW : W ≤ W') (hC : C ≤ C') (hv : RV s W C r) : RV t W' C' r := by
  obtain ⟨w, c, g, z1, z2, z3, z4, e1, e2, e3⟩ := hv
  exact ⟨w, c, g, by omega, by omega, z3, z4, (hg _ (by omega)).trans e1, (hg _ (by omega)).trans e2, (hg _ (by omega)).trans e3⟩
/-- the cells of workers and the year change -/
theorem sv_work (hS : SV s W C y Hn R T) {t : Nat → Int32} {y' : Nat} (h0 : t 0 = nI y') (hy : y' ≤ 99) (hag : ∀ k, 51 ≤ k → t k = s k) (hV : ∀ w, w < W → WV t C w) : SV t W C y' Hn R T := by
  obtain ⟨⟨hW, h10, hC, h4, hy0, hy2, hV0, hK⟩, hy9, s53, h5, s54, h20, s55, h100, n1, n2, hB, hT, h56⟩ := hS
  refine ⟨⟨(hag 51 (by omega)).trans hW, h10, (hag 52 (by omega)).trans hC, h4, h0, by omega, hV, fun c hc => cv_ag (by omega) (fun k h1 h2 => hag k (by omega)) (hK c hc)⟩, hy, (hag 53 (by omega)).trans s53, h5, (hag 54 (by omega)).trans s54, h20, (hag 55 (by omega)).trans s55, h100, ?_, ?_, fun r hr => rv_ag (fun k hk => hag k (by omega)) (Nat.le_refl _) (Nat.le_refl _) (hB r hr), fun j hj => ?_, (hag 56 (by omega)).trans h56⟩
  · obtain ⟨a, a1, a2⟩ := n1; exact ⟨a, a1, (hag 57 (by omega)).trans a2⟩
  · obtain ⟨a, a1, a2⟩ := n2; exact ⟨a, a1, (hag 58 (by omega)).trans a2⟩
  · obtain ⟨a, a1, a2⟩ := hT j hj; exact ⟨a, a1, (hag _ (by omega)).trans a2⟩
theorem wr_work (hS : SV s W C y Hn R T) (hR : WR F o A Cf h s) {t : Nat → Int32} {o' : Nat → Int32} {A' : Nat → Nat → Int32} (hag : ∀ k, 51 ≤ k → t k = s k) (hO : WO t o') (hWW : WW t A') (h14 : A' 14 = A 14) (h15 : A' 15 = A 15) (h16 : A' 16 = A 16) (h17 : A' 17 = A 17) : WR F o' A' Cf h t := by
  obtain ⟨-, -, r3, r4, r5, r6, r7⟩ := hR
  have h52 := hag 52 (by omega)
  refine ⟨hO, hWW, fun r hr => ?_, fun j hj => by rw [h17, r4 j hj, hag _ (by omega)], fun c hc => ?_, r6, hr_ag (hag 56 (by omega)) (fun k hk => hag k (by omega)) (sv_56 hS) r7⟩
  · obtain ⟨q1, q2, q3⟩ := r3 r hr
    rw [h14, h15, h16, hag _ (by omega), hag _ (by omega), hag _ (by omega)]
    exact ⟨q1, q2, q3⟩
  · rw [h52] at hc
    obtain ⟨b, b1, b2⟩ := r5 c hc
    have : nn (s 52) ≤ 4 := by rw [sv_nC hS]; exact hS.1.2.2.2.1
    exact ⟨b, b1, ch_ag (by omega) (fun k h1 h2 => hag k (by omega)) b2⟩
theorem wo_work {t : Nat → Int32} (hO : WO s o) (h0 : t 0 = s 0) (hag : ∀ k, 51 ≤ k → t k = s k) : WO t o := by
  obtain ⟨e0, e1, e2, e3, e4, e5, e6, e7⟩ := hO
  exact ⟨e0.trans (hag 51 (by omega)).symm, e1.trans (hag 52 (by omega)).symm, e2.trans (hag 53 (by omega)).symm, e3.trans (hag 54 (by omega)).symm, e4.trans (hag 55 (by omega)).symm, e5.trans h0.symm, e6.trans (hag 57 (by omega)).symm, e7.trans (hag 58 (by omega)).symm⟩
theorem m_move (hS : SV s W C y Hn R T) (hR : WR F o A Cf h s) (x1 x2 : Int32) : ∃ v w10 t, pX11_move (o 0) (o 1) Cf (A 10) x1 x2 = some (v, w10) ∧ pX12_move s x1 x2 = some (v, t) ∧ SW F o (gu A 10 w10) Cf h t := by
  have hI := hS.1
  obtain ⟨hW, h10, hC, h4, hy, hy2, hV, hK⟩ := id hI
  obtain ⟨e0, e1, -⟩ := wr_o hS hR
  rw [e0, e1]
  unfold pX11_move pX12_move
  have hsame : SW F o (gu A 10 (A 10)) Cf h s := by rw [gu_self]; exact ⟨⟨W, C, y, Hn, R, T, hS⟩, hR⟩
  rcases x_lt x1 (n := W) (by omega) with ⟨w, hw, rfl⟩ | hx1
  · have z1 := isw_t hW h10 hw
    have z2 := c_has h10 hw
    rcases x_lt x2 (n := C) (by omega) with ⟨c, hc, rfl⟩ | hx2
    · obtain ⟨b, hb, hch⟩ := wr_cfs hS hR c hc
      have z3 := c_chief h4 hc hb
      have z4 := isc_t hC h4 hc
      obtain ⟨q8, q9, q10, q11, q12⟩ := hR.2.1 w (by omega)
      have hag : ∀ k, k ≠ 31 + w → upd s (31 + w) (nI c) k = s k := fun k hk => pk_un hk
      refine ⟨s (31 + w), upd (A 10) w (nI c), upd s (31 + w) (nI c), by simp (disch := omega) only [n_lit, nI_add, nI_1, n_cl, gck_in, gck_t, gck_T, ↓gnm_e, gbd_s, ↓reduceIte, n_leT, n_leF, n_ltT, n_ltF, n_eqT, n_eqF, Nat.add_zero, Nat.zero_add, z2, z3, gmt_s, q10], by simp (disch := omega) only [n_lit, nI_add, nI_1, n_cl, gck_in, gck_t, gck_T, ↓gnm_e, gbd_s, ↓reduceIte, n_leT, n_leF, n_ltT, n_ltF, n_eqT, n_eqF, Nat.add_zero, Nat.zero_add, z1, z4], ⟨W, C, y, Hn, R, T, ?_⟩, ?_⟩
      · refine sv_work hS (pk_un (by omega) |>.trans hy) hS.2.1 (fun k hk => hag k (by omega)) (fun x hx => ?_)
        by_cases ex : x = w
        · subst ex
          obtain ⟨a, b, d, e, c', z1, z2, z3, z4, z5, f1, f2, f3, f4, f5⟩ := hV x hx
          exact ⟨a, b, d, e, c, z1, z2, z3, z4, hc, (hag _ (by omega)).trans f1, (hag _ (by omega)).trans f2, (hag _ (by omega)).trans f3, (hag _ (by omega)).trans f4, pk_us⟩
        · exact wv_ag (by omega) (fun k hk => hag k (by omega)) (Nat.le_refl _) (hV x hx)
      · refine wr_work hS hR (fun k hk => hag k (by omega)) (wo_work hR.1 (hag 0 (by omega)) (fun k hk => hag k (by omega))) (fun x hx => ?_) (gu_n (by decide)) (gu_n (by decide)) (gu_n (by decide)) (gu_n (by decide))
        obtain ⟨p8, p9, p10, p11, p12⟩ := hR.2.1 x hx
        simp (disch := omega) only [gu_n, gu_s, hag]
        refine ⟨p8, p9, ?_, p11, p12⟩
        by_cases ex : x = w
        · subst ex; rw [pk_us, pk_us]
        · rw [pk_un ex, hag _ (by omega)]; exact p10
    · have z3 := cat_f (Cf := Cf) hx2
      have z4 := isc_f hC h4 hx2
      exact ⟨-nI 1, A 10, s, by rw [z2, gbd_s, ib1, z3, gbd_s, gmt_n]; rfl, by rw [z1, gbd_s, ib1, z4, gbd_s, ib0]; rfl, hsame⟩
  · have z1 := isw_f hW h10 hx1
    have z2 := has_f hx1
    exact ⟨-nI 1, A 10, s, by rw [z2, gbd_s, ib0]; rfl, by rw [z1, gbd_s, ib0]; rfl, hsame⟩
theorem m_set (hS : SV s W C y Hn R T) (hR : WR F o A Cf h s) (x1 x2 x3 : Int32) : ∃ v w8 w9 w11 t, pX11_set (o 0) (A 8) (A 9) (A 11) x1 x2 x3 = some (v, w8, w9, w11) ∧ pX12_set s x1 x2 x3 = some (v, t) ∧ SW F o (gu (gu (gu A 8 w8) 9 w9) 11 w11) Cf h t := by
  have hI := hS.1
  obtain ⟨hW, h10, hC, h4, hy, hy2, hV, hK⟩ := id hI
  obtain ⟨e0, e1, -⟩ := wr_o hS hR
  rw [e0]
  unfold pX11_set pX12_set
  have hsame : SW F o (gu (gu (gu A 8 (A 8)) 9 (A 9)) 11 (A 11)) Cf h s := by rw [gu_self, gu_self, gu_self]; exact ⟨⟨W, C, y, Hn, R, T, hS⟩, hR⟩
  rcases x_lt x1 (n := W) (by omega) with ⟨w, hw, rfl⟩ | hx1
  · have z1 := isw_t hW h10 hw
    have z2 := c_has h10 hw
    obtain ⟨q8, q9, q10, q11, q12⟩ := hR.2.1 w (by omega)
    obtain ⟨a, b, d, e, c', v1, v2, v3, v4, v5, f1, f2, f3, f4, f5⟩ := hV w hw
    rcases x_in x2 (n := 2) (by decide) with ⟨j, hj, rfl⟩ | hx2
    · have hin : pX12_in (nI j) (nI 0) (nI 2) = some (nI 1) := in_nT (a := 0) (by omega) hj (by decide)
      rcases (show j = 0 ∨ j = 1 ∨ j = 2 by omega) with e | e | e <;> subst e
      · rcases x_in x3 (n := 99) (by decide) with ⟨i, hi, rfl⟩ | hx3
        · have y1 : pX12_in (nI i) (nI 0) (nI 99) = some (nI 1) := in_nT (a := 0) (by omega) hi (by decide)
          have y2 : pX11_isWithin (nI i) (nI 99) = some (nI 1) := wi_nT hi (by decide)
          have hag : ∀ k, k ≠ 1 + w → upd s (1 + w) (nI i) k = s k := fun k hk => pk_un hk
          refine ⟨s (1 + w), upd (A 8) w (nI i), A 9, A 11, upd s (1 + w) (nI i), by simp (disch := omega) only [pX11_set_35, n_lit, nI_add, nI_1, n_cl, gck_in, gck_t, gck_T, ↓gnm_e, gbd_s, ↓reduceIte, n_leT, n_leF, n_ltT, n_ltF, n_eqT, n_eqF, Nat.add_zero, Nat.zero_add, z2, y2, q8], by simp (disch := omega) only [pX12_set_33, pX12_set_62, n_lit, nI_add, nI_1, n_cl, gck_in, gck_t, gck_T, ↓gnm_e, gbd_s, ↓reduceIte, n_leT, n_leF, n_ltT, n_ltF, n_eqT, n_eqF, Nat.add_zero, Nat.zero_add, z1, hin, y1], ⟨W, C, y, Hn, R, T, ?_⟩, ?_⟩
          · refine sv_work hS (pk_un (by omega) |>.trans hy) hS.2.1 (fun k hk => hag k (by omega)) (fun x hx => ?_)
            by_cases ex : x = w
            · subst ex
              exact ⟨i, b, d, _, c', hi, v2, v3, v4, v5, pk_us, (hag _ (by omega)).trans f2, (hag _ (by omega)).trans f3, (hag _ (by omega)).trans f4, (hag _ (by omega)).trans f5⟩
            · exact wv_ag (by omega) (fun k hk => hag k (by omega)) (Nat.le_refl _) (hV x hx)
          · refine wr_work hS hR (fun k hk => hag k (by omega)) (wo_work hR.1 (hag 0 (by omega)) (fun k hk => hag k (by omega))) (fun x hx => ?_) (by simp (disch := omega) only [gu_n]) (by simp (disch := omega) only [gu_n]) (by simp (disch := omega) only [gu_n]) (by simp (disch := omega) only [gu_n])
            obtain ⟨p8, p9, p10, p11, p12⟩ := hR.2.1 x hx
            simp (disch := omega) only [gu_n, gu_s, hag]
            refine ⟨?_, p9, p10, p11, p12⟩
            by_cases ex : x = w
            · subst ex; rw [pk_us, pk_us]
            · rw [pk_un ex, hag _ (by omega)]; exact p8
        · have y1 : pX12_in x3 (nI 0) (nI 99) = some (nI 0) := in_f hx3
          have y2 : pX11_isWithin x3 (nI 99) = some (nI 0) := wi_f hx3
          exact ⟨-nI 2, A 8, A 9, A 11, s, by simp (disch := omega) only [pX11_set_35, n_lit, nI_add, nI_1, n_cl, gck_in, gck_t, gck_T, ↓gnm_e, gbd_s, ↓reduceIte, n_leT, n_leF, n_ltT, n_ltF, n_eqT, n_eqF, Nat.add_zero, Nat.zero_add, z2, y2], by simp (disch := omega) only [pX12_set_33, n_lit, nI_add, nI_1, n_cl, gck_in, gck_t, gck_T, ↓gnm_e, gbd_s, ↓reduceIte, n_leT, n_leF, n_ltT, n_ltF, n_eqT, n_eqF, Nat.add_zero, Nat.zero_add, z1, hin, y1], hsame⟩
      · rcases x_in x3 (n := 99) (by decide) with ⟨i, hi, rfl⟩ | hx3
        · have y1 : pX12_in (nI i) (nI 0) (nI 99) = some (nI 1) := in_nT (a := 0) (by omega) hi (by decide)
          have y2 : pX11_isWithin (nI i) (nI 99) = some (nI 1) := wi_nT hi (by decide)
          have hag : ∀ k, k ≠ 11 + w → upd s (11 + w) (nI i) k = s k := fun k hk => pk_un hk
          refine ⟨s (11 + w), A 8, upd (A 9) w (nI i), A 11, upd s (11 + w) (nI i), by simp (disch := omega) only [pX11_set_35, n_lit, nI_add, nI_1, n_cl, gck_in, gck_t, gck_T, ↓gnm_e, gbd_s, ↓reduceIte, n_leT, n_leF, n_ltT, n_ltF, n_eqT, n_eqF, Nat.add_zero, Nat.zero_add, z2, y2, q9], by simp (disch := omega) only [pX12_set_33, pX12_set_62, n_lit, nI_add, nI_1, n_cl, gck_in, gck_t, gck_T, ↓gnm_e, gbd_s, ↓reduceIte, n_leT, n_leF, n_ltT, n_ltF, n_eqT, n_eqF, Nat.add_zero, Nat.zero_add, z1, hin, y1], ⟨W, C, y, Hn, R, T, ?_⟩, ?_⟩
          · refine sv_work hS (pk_un (by omega) |>.trans hy) hS.2.1 (fun k hk => hag k (by omega)) (fun x hx => ?_)
            by_cases ex : x = w
            · subst ex
              exact ⟨a, i, d, _, c', v1, hi, v3, v4, v5, (hag _ (by omega)).trans f1, pk_us, (hag _ (by omega)).trans f3, (hag _ (by omega)).trans f4, (hag _ (by omega)).trans f5⟩
            · exact wv_ag (by omega) (fun k hk => hag k (by omega)) (Nat.le_refl _) (hV x hx)
          · refine wr_work hS hR (fun k hk => hag k (by omega)) (wo_work hR.1 (hag 0 (by omega)) (fun k hk => hag k (by omega))) (fun x hx => ?_) (by simp (disch := omega) only [gu_n]) (by simp (disch := omega) only [gu_n]) (by simp (disch := omega) only [gu_n]) (by simp (disch := omega) only [gu_n])
            obtain ⟨p8, p9, p10, p11, p12⟩ := hR.2.1 x hx
            simp (disch := omega) only [gu_n, gu_s, hag]
            refine ⟨p8, ?_, p10, p11, p12⟩
            by_cases ex : x = w
            · subst ex; rw [pk_us, pk_us]
            · rw [pk_un ex, hag _ (by omega)]; exact p9
        · have y1 : pX12_in x3 (nI 0) (nI 99) = some (nI 0) := in_f hx3
          have y2 : pX11_isWithin x3 (nI 99) = some (nI 0) := wi_f hx3
          exact ⟨-nI 2, A 8, A 9, A 11, s, by simp (disch := omega) only [pX11_set_35, n_lit, nI_add, nI_1, n_cl, gck_in, gck_t, gck_T, ↓gnm_e, gbd_s, ↓reduceIte, n_leT, n_leF, n_ltT, n_ltF, n_eqT, n_eqF, Nat.add_zero, Nat.zero_add, z2, y2], by simp (disch := omega) only [pX12_set_33, n_lit, nI_add, nI_1, n_cl, gck_in, gck_t, gck_T, ↓gnm_e, gbd_s, ↓reduceIte, n_leT, n_leF, n_ltT, n_ltF, n_eqT, n_eqF, Nat.add_zero, Nat.zero_add, z1, hin, y1], hsame⟩
      · rcases x_in x3 (n := 9) (by decide) with ⟨i, hi, rfl⟩ | hx3
        · have y1 : pX12_in (nI i) (nI 0) (nI 9) = some (nI 1) := in_nT (a := 0) (by omega) hi (by decide)
          have y2 : pX11_isWithin (nI i) (nI 9) = some (nI 1) := wi_nT hi (by decide)
          have hag : ∀ k, k ≠ 41 + w → upd s (41 + w) (nI i) k = s k := fun k hk => pk_un hk
          refine ⟨s (41 + w), A 8, A 9, upd (A 11) w (nI i), upd s (41 + w) (nI i), by simp (disch := omega) only [pX11_set_35, n_lit, nI_add, nI_1, n_cl, gck_in, gck_t, gck_T, ↓gnm_e, gbd_s, ↓reduceIte, n_leT, n_leF, n_ltT, n_ltF, n_eqT, n_eqF, Nat.add_zero, Nat.zero_add, z2, y2, q11], by simp (disch := omega) only [pX12_set_33, pX12_set_62, n_lit, nI_add, nI_1, n_cl, gck_in, gck_t, gck_T, ↓gnm_e, gbd_s, ↓reduceIte, n_leT, n_leF, n_ltT, n_ltF, n_eqT, n_eqF, Nat.add_zero, Nat.zero_add, z1, hin, y1], ⟨W, C, y, Hn, R, T, ?_⟩, ?_⟩
          · refine sv_work hS (pk_un (by omega) |>.trans hy) hS.2.1 (fun k hk => hag k (by omega)) (fun x hx => ?_)
            by_cases ex : x = w
            · subst ex
              exact ⟨a, b, i, _, c', v1, v2, hi, v4, v5, (hag _ (by omega)).trans f1, (hag _ (by omega)).trans f2, pk_us, (hag _ (by omega)).trans f4, (hag _ (by omega)).trans f5⟩
            · exact wv_ag (by omega) (fun k hk => hag k (by omega)) (Nat.le_refl _) (hV x hx)
          · refine wr_work hS hR (fun k hk => hag k (by omega)) (wo_work hR.1 (hag 0 (by omega)) (fun k hk => hag k (by omega))) (fun x hx => ?_) (by simp (disch := omega) only [gu_n]) (by simp (disch := omega) only [gu_n]) (by simp (disch := omega) only [gu_n]) (by simp (disch := omega) only [gu_n])
            obtain ⟨p8, p9, p10, p11, p12⟩ := hR.2.1 x hx
            simp (disch := omega) only [gu_n, gu_s, hag]
            refine ⟨p8, p9, p10, ?_, p12⟩
            by_cases ex : x = w
            · subst ex; rw [pk_us, pk_us]
            · rw [pk_un ex, hag _ (by omega)]; exact p11
        · have y1 : pX12_in x3 (nI 0) (nI 9) = some (nI 0) := in_f hx3
          have y2 : pX11_isWithin x3 (nI 9) = some (nI 0) := wi_f hx3
          exact ⟨-nI 2, A 8, A 9, A 11, s, by simp (disch := omega) only [pX11_set_35, n_lit, nI_add, nI_1, n_cl, gck_in, gck_t, gck_T, ↓gnm_e, gbd_s, ↓reduceIte, n_leT, n_leF, n_ltT, n_ltF, n_eqT, n_eqF, Nat.add_zero, Nat.zero_add, z2, y2], by simp (disch := omega) only [pX12_set_33, n_lit, nI_add, nI_1, n_cl, gck_in, gck_t, gck_T, ↓gnm_e, gbd_s, ↓reduceIte, n_leT, n_leF, n_ltT, n_ltF, n_eqT, n_eqF, Nat.add_zero, Nat.zero_add, z1, hin, y1], hsame⟩
    · have hin : pX12_in x2 (nI 0) (nI 2) = some (nI 0) := in_f hx2
      refine ⟨-nI 1, A 8, A 9, A 11, s, ?_, by simp (disch := omega) only [n_lit, nI_add, nI_1, n_cl, gck_in, gck_t, gck_T, ↓gnm_e, gbd_s, ↓reduceIte, n_leT, n_leF, n_ltT, n_ltF, n_eqT, n_eqF, Nat.add_zero, Nat.zero_add, z1, hin], hsame⟩
      rw [z2, gbd_s, ib1]
      by_cases w0 : x2 < 0
      · rw [if_pos w0]; rfl
      · rw [if_neg w0, if_neg (show ¬ x2 ≤ 2 from n_nle.mpr (hx2.resolve_left w0))]; rfl
  · have z1 := isw_f hW h10 hx1
    have z2 := has_f hx1
    exact ⟨-nI 1, A 8, A 9, A 11, s, by rw [z2, gbd_s, ib0]; rfl, by rw [z1, gbd_s, ib0]; rfl, hsame⟩
end MUT
