/-! PURE SIDE: fresh, feed, worker, book, clear -/
section MUT
variable {F : gF} {o : Nat → Int32} {A : Nat → Nat → Int32} {Cf : Nat → Option Nat} {h : Nat} {s : Nat → Int32} {W C y Hn R T : Nat}
theorem n_lt01 {x : Int32} (h : x < nI 0) : x < nI 1 := by
  rw [n_ltI, n_ti (by omega)] at h ⊢
  omega
theorem n_in {x : Int32} {n : Nat} (h : x < nI 0 ∨ nI n < x) (hn : n < 1000000) : ¬ x < nI 0 → ¬ x ≤ nI n := fun h1 => n_nle.mpr (h.resolve_left h1)
theorem m_fresh (hS : SV s W C y Hn R T) (hR : WR F o A Cf h s) (x1 x2 : Int32) : ∃ v w6 w7 t, pX11_fresh (o 6) (o 7) x1 x2 = some (v, w6, w7) ∧ pX12_fresh s x1 x2 = some (v, t) ∧ SW F (gu (gu o 6 w6) 7 w7) A Cf h t := by
  unfold pX11_fresh pX12_fresh
  have hsame : SW F (gu (gu o 6 (o 6)) 7 (o 7)) A Cf h s := by rw [gu_self, gu_self]; exact ⟨⟨W, C, y, Hn, R, T, hS⟩, hR⟩
  obtain ⟨⟨e0, e1, e2, e3, e4, e5, e6, e7⟩, r2, r3, r4, r5, r6, r7⟩ := id hR
  rcases x_in x1 (n := 99) (by decide) with ⟨a, ha, rfl⟩ | hx1
  · have z1 : pX12_in (nI a) (nI 0) (nI 99) = some (nI 1) := in_nT (a := 0) (by omega) ha (by decide)
    have z2 : pX11_isWithin (nI a) (nI 99) = some (nI 1) := wi_nT ha (by decide)
    rcases x_in x2 (n := 99) (by decide) with ⟨b, hb, rfl⟩ | hx2
    · have z3 : pX12_in (nI b) (nI 0) (nI 99) = some (nI 1) := in_nT (a := 0) (by omega) hb (by decide)
      have z4 : pX11_isWithin (nI b) (nI 99) = some (nI 1) := wi_nT hb (by decide)
      have hag : ∀ k, k ≠ 57 → k ≠ 58 → upd (upd s 57 (nI a)) 58 (nI b) k = s k := fun k h1 h2 => by rw [pk_un h2, pk_un h1]
      have a57 : upd (upd s 57 (nI a)) 58 (nI b) 57 = nI a := by rw [pk_un (by decide), pk_us]
      have a58 : upd (upd s 57 (nI a)) 58 (nI b) 58 = nI b := pk_us
      refine ⟨s 57, nI a, nI b, upd (upd s 57 (nI a)) 58 (nI b), by simp (disch := omega) only [n_lit, nI_add, nI_1, n_cl, gck_in, gck_t, gck_T, ↓gnm_e, gbd_s, ↓reduceIte, n_leT, n_leF, n_ltT, n_ltF, n_eqT, n_eqF, Nat.add_zero, Nat.zero_add, z2, z4, e6], by simp (disch := omega) only [n_lit, nI_add, nI_1, n_cl, gck_in, gck_t, gck_T, ↓gnm_e, gbd_s, ↓reduceIte, n_leT, n_leF, n_ltT, n_ltF, n_eqT, n_eqF, Nat.add_zero, Nat.zero_add, z1, z3], ⟨W, C, y, Hn, R, T, ?_⟩, ?_⟩
      · obtain ⟨⟨hW, h10, hC, h4, hy0, hy2, hV0, hK⟩, hy9, s53, h5, s54, h20, s55, h100, n1, n2, hB, hT, h56⟩ := hS
        refine ⟨⟨(hag 51 (by omega) (by omega)).trans hW, h10, (hag 52 (by omega) (by omega)).trans hC, h4, (hag 0 (by omega) (by omega)).trans hy0, hy2, fun w hw => wv_ag (by omega) (fun k hk => hag k (by omega) (by omega)) (Nat.le_refl _) (hV0 w hw), fun c hc => cv_ag (by omega) (fun k h1 h2 => hag k (by omega) (by omega)) (hK c hc)⟩, hy9, (hag 53 (by omega) (by omega)).trans s53, h5, (hag 54 (by omega) (by omega)).trans s54, h20, (hag 55 (by omega) (by omega)).trans s55, h100, ⟨a, ha, a57⟩, ⟨b, hb, a58⟩, fun r hr => rv_ag (fun k hk => hag k (by omega) (by omega)) (Nat.le_refl _) (Nat.le_refl _) (hB r hr), fun j hj => ?_, (hag 56 (by omega) (by omega)).trans h56⟩
        obtain ⟨a, a1, a2⟩ := hT j hj; exact ⟨a, a1, (hag _ (by omega) (by omega)).trans a2⟩
      · refine ⟨?_, fun w hw => ?_, fun r hr => ?_, fun j hj => ?_, fun c hc => ?_, r6, hr_ag (hag 56 (by omega) (by omega)) (fun k hk => hag k (by omega) (by omega)) (sv_56 hS) r7⟩
        · unfold WO
          simp (disch := omega) only [gu_n, gu_s, hag, a57, a58]
          exact ⟨e0, e1, e2, e3, e4, e5, trivial, trivial⟩
        · simp (disch := omega) only [hag]; exact r2 w hw
        · simp (disch := omega) only [hag]; exact r3 r hr
        · simp (disch := omega) only [hag]; exact r4 j hj
        · rw [hag 52 (by omega) (by omega)] at hc
          obtain ⟨b, b1, b2⟩ := r5 c hc
          have : nn (s 52) ≤ 4 := by rw [sv_nC hS]; exact hS.1.2.2.2.1
          exact ⟨b, b1, ch_ag (by omega) (fun k h1 h2 => hag k (by omega) (by omega)) b2⟩
    · have z3 : pX12_in x2 (nI 0) (nI 99) = some (nI 0) := in_f hx2
      have z4 : pX11_isWithin x2 (nI 99) = some (nI 0) := wi_f hx2
      exact ⟨-nI 2, o 6, o 7, s, by simp (disch := omega) only [n_lit, nI_add, nI_1, n_cl, gck_in, gck_t, gck_T, ↓gnm_e, gbd_s, ↓reduceIte, n_leT, n_leF, n_ltT, n_ltF, n_eqT, n_eqF, Nat.add_zero, Nat.zero_add, z2, z4], by simp (disch := omega) only [n_lit, nI_add, nI_1, n_cl, gck_in, gck_t, gck_T, ↓gnm_e, gbd_s, ↓reduceIte, n_leT, n_leF, n_ltT, n_ltF, n_eqT, n_eqF, Nat.add_zero, Nat.zero_add, z1, z3], hsame⟩
  · have z1 : pX12_in x1 (nI 0) (nI 99) = some (nI 0) := in_f hx1
    have z2 : pX11_isWithin x1 (nI 99) = some (nI 0) := wi_f hx1
    exact ⟨-nI 2, o 6, o 7, s, by simp (disch := omega) only [n_lit, nI_add, nI_1, n_cl, gck_in, gck_t, gck_T, ↓gnm_e, gbd_s, ↓reduceIte, n_leT, n_leF, n_ltT, n_ltF, n_eqT, n_eqF, Nat.add_zero, Nat.zero_add, z2], by simp (disch := omega) only [n_lit, nI_add, nI_1, n_cl, gck_in, gck_t, gck_T, ↓gnm_e, gbd_s, ↓reduceIte, n_leT, n_leF, n_ltT, n_ltF, n_eqT, n_eqF, Nat.add_zero, Nat.zero_add, z1], hsame⟩
theorem ch_127 : ∀ j, j < 128 → vp_nar .char (UInt32.toInt32 (Int32.toUInt32 (nI j) % 65536)) = nI j := by decide
theorem m_feed (hS : SV s W C y Hn R T) (hR : WR F o A Cf h s) (x1 : Int32) : ∃ v w4 w17 t, pX11_feed (o 4) (A 17) x1 = some (v, w4, w17) ∧ pX12_feed s x1 = some (v, t) ∧ SW F (gu o 4 w4) (gu A 17 w17) Cf h t := by
  unfold pX11_feed pX12_feed
  have hsame : SW F (gu o 4 (o 4)) (gu A 17 (A 17)) Cf h s := by rw [gu_self, gu_self]; exact ⟨⟨W, C, y, Hn, R, T, hS⟩, hR⟩
  obtain ⟨-, -, -, -, q4, -⟩ := wr_o hS hR
  obtain ⟨⟨e0, e1, e2, e3, e4, e5, e6, e7⟩, r2, r3, r4, r5, r6, r7⟩ := id hR
  obtain ⟨⟨hW, h10, hC, h4, hy0, hy2, hV0, hK⟩, hy9, s53, h5, s54, h20, s55, h100, n1, n2, hB, hT, h56⟩ := id hS
  rcases x_in x1 (n := 127) (by decide) with ⟨a, ha, rfl⟩ | hx1
  · have z1 : pX12_in (nI a) (nI 0) (nI 127) = some (nI 1) := in_nT (a := 0) (by omega) ha (by decide)
    by_cases hf : T = 100
    · exact ⟨-nI 4, o 4, A 17, s, by simp (disch := omega) only [n_lit, nI_add, nI_1, n_cl, gck_in, gck_t, gck_T, ↓gnm_e, gbd_s, ↓reduceIte, n_leT, n_leF, n_ltT, n_ltF, n_eqT, n_eqF, Nat.add_zero, Nat.zero_add, q4], by simp (disch := omega) only [n_lit, nI_add, nI_1, n_cl, gck_in, gck_t, gck_T, ↓gnm_e, gbd_s, ↓reduceIte, n_leT, n_leF, n_ltT, n_ltF, n_eqT, n_eqF, Nat.add_zero, Nat.zero_add, z1, s55, hf], hsame⟩
    · have hag : ∀ k, k ≠ 132 + T → k ≠ 55 → upd (upd s (132 + T) (nI a)) 55 (nI (T + 1)) k = s k := fun k h1 h2 => by rw [pk_un h2, pk_un h1]
      have a55 : upd (upd s (132 + T) (nI a)) 55 (nI (T + 1)) 55 = nI (T + 1) := pk_us
      have aT : upd (upd s (132 + T) (nI a)) 55 (nI (T + 1)) (132 + T) = nI a := by rw [pk_un (by omega), pk_us]
      refine ⟨nI (T + 1), nI (T + 1), upd (A 17) T (nI a), upd (upd s (132 + T) (nI a)) 55 (nI (T + 1)), ?_, ?_, ⟨W, C, y, Hn, R, T + 1, ?_⟩, ?_⟩
      · rw [if_neg (by rw [n_lit, n_ltF (by omega) (by omega)]; exact fun z => z), if_pos (by rw [n_lit, n_leT (by omega) (by omega)]; trivial), q4, if_pos (by rw [n_lit, n_ltT (by omega) (by omega)]; trivial), gck_t (ginb_t (by omega) (by decide)), gnm_e, n_cl (by omega), nI_1, ch_127 a (by omega)]
      · simp (disch := omega) only [n_lit, nI_add, nI_1, n_cl, gck_in, gck_t, gck_T, ↓gnm_e, gbd_s, ↓reduceIte, n_leT, n_leF, n_ltT, n_ltF, n_eqT, n_eqF, Nat.add_zero, Nat.zero_add, z1, s55, pk_un, pk_us]
      · refine ⟨⟨(hag 51 (by omega) (by omega)).trans hW, h10, (hag 52 (by omega) (by omega)).trans hC, h4, (hag 0 (by omega) (by omega)).trans hy0, hy2, fun w hw => wv_ag (by omega) (fun k hk => hag k (by omega) (by omega)) (Nat.le_refl _) (hV0 w hw), fun c hc => cv_ag (by omega) (fun k h1 h2 => hag k (by omega) (by omega)) (hK c hc)⟩, hy9, (hag 53 (by omega) (by omega)).trans s53, h5, (hag 54 (by omega) (by omega)).trans s54, h20, a55, by omega, ?_, ?_, fun r hr => rv_ag (fun k hk => hag k (by omega) (by omega)) (Nat.le_refl _) (Nat.le_refl _) (hB r hr), fun j hj => ?_, (hag 56 (by omega) (by omega)).trans h56⟩
        · obtain ⟨a, a1, a2⟩ := n1; exact ⟨a, a1, (hag _ (by omega) (by omega)).trans a2⟩
        · obtain ⟨a, a1, a2⟩ := n2; exact ⟨a, a1, (hag _ (by omega) (by omega)).trans a2⟩
        · by_cases ej : j = T
          · subst ej; exact ⟨a, ha, aT⟩
          · obtain ⟨a, a1, a2⟩ := hT j hj; exact ⟨a, a1, (hag _ (by omega) (by omega)).trans a2⟩
      · refine ⟨?_, fun w hw => ?_, fun r hr => ?_, fun j hj => ?_, fun c hc => ?_, r6, hr_ag (hag 56 (by omega) (by omega)) (fun k hk => hag k (by omega) (by omega)) (sv_56 hS) r7⟩
        · unfold WO
          simp (disch := omega) only [gu_n, gu_s, hag, a55]
          exact ⟨e0, e1, e2, e3, trivial, e5, e6, e7⟩
        · simp (disch := omega) only [gu_n, hag]; exact r2 w hw
        · simp (disch := omega) only [gu_n, hag]; exact r3 r hr
        · rw [gu_s]
          by_cases ej : j = T
          · subst ej; rw [pk_us, aT]
          · rw [pk_un ej, hag _ (by omega) (by omega)]; exact r4 j hj
        · rw [hag 52 (by omega) (by omega)] at hc
          obtain ⟨b, b1, b2⟩ := r5 c hc
          have : nn (s 52) ≤ 4 := by rw [sv_nC hS]; exact hS.1.2.2.2.1
          exact ⟨b, b1, ch_ag (by omega) (fun k h1 h2 => hag k (by omega) (by omega)) b2⟩
  · have z1 : pX12_in x1 (nI 0) (nI 127) = some (nI 0) := in_f hx1
    refine ⟨-nI 2, o 4, A 17, s, ?_, by simp (disch := omega) only [n_lit, nI_add, nI_1, n_cl, gck_in, gck_t, gck_T, ↓gnm_e, gbd_s, ↓reduceIte, n_leT, n_leF, n_ltT, n_ltF, n_eqT, n_eqF, Nat.add_zero, Nat.zero_add, z1], hsame⟩
    by_cases w0 : x1 < 0
    · rw [if_pos w0]; rfl
    · rw [if_neg w0, if_neg (show ¬ x1 ≤ 127 from n_nle.mpr (hx1.resolve_left w0))]; rfl
theorem m_clear (hS : SV s W C y Hn R T) (hR : WR F o A Cf h s) : ∃ v w3 t, pX11_clear (o 3) = some (v, w3) ∧ pX12_clear s = some (v, t) ∧ SW F (gu o 3 w3) A Cf h t := by
  unfold pX11_clear pX12_clear
  obtain ⟨⟨e0, e1, e2, e3, e4, e5, e6, e7⟩, r2, r3, r4, r5, r6, r7⟩ := id hR
  obtain ⟨⟨hW, h10, hC, h4, hy0, hy2, hV0, hK⟩, hy9, s53, h5, s54, h20, s55, h100, n1, n2, hB, hT, h56⟩ := id hS
  have hag : ∀ k, k ≠ 54 → upd s 54 (nI 0) k = s k := fun k h1 => pk_un h1
  have a54 : upd s 54 (nI 0) 54 = nI 0 := pk_us
  refine ⟨s 54, nI 0, upd s 54 (nI 0), by rw [e3]; rfl, by simp (disch := omega) only [n_lit, nI_add, nI_1, n_cl, gck_in, gck_t, gck_T, ↓gnm_e, gbd_s, ↓reduceIte, n_leT, n_leF, n_ltT, n_ltF, n_eqT, n_eqF, Nat.add_zero, Nat.zero_add], ⟨W, C, y, Hn, 0, T, ?_⟩, ?_⟩
  · refine ⟨⟨(hag 51 (by omega)).trans hW, h10, (hag 52 (by omega)).trans hC, h4, (hag 0 (by omega)).trans hy0, hy2, fun w hw => wv_ag (by omega) (fun k hk => hag k (by omega)) (Nat.le_refl _) (hV0 w hw), fun c hc => cv_ag (by omega) (fun k h1 h2 => hag k (by omega)) (hK c hc)⟩, hy9, (hag 53 (by omega)).trans s53, h5, a54, by omega, (hag 55 (by omega)).trans s55, h100, ?_, ?_, fun r hr => absurd hr (Nat.not_lt_zero _), fun j hj => ?_, (hag 56 (by omega)).trans h56⟩
    · obtain ⟨a, a1, a2⟩ := n1; exact ⟨a, a1, (hag _ (by omega)).trans a2⟩
    · obtain ⟨a, a1, a2⟩ := n2; exact ⟨a, a1, (hag _ (by omega)).trans a2⟩
    · obtain ⟨a, a1, a2⟩ := hT j hj; exact ⟨a, a1, (hag _ (by omega)).trans a2⟩
  · refine ⟨?_, fun w hw => ?_, fun r hr => ?_, fun j hj => ?_, fun c hc => ?_, r6, hr_ag (hag 56 (by omega)) (fun k hk => hag k (by omega)) (sv_56 hS) r7⟩
    · unfold WO
      simp (disch := omega) only [gu_n, gu_s, hag, a54]
      exact ⟨e0, e1, e2, trivial, e4, e5, e6, e7⟩
    · simp (disch := omega) only [hag]; exact r2 w hw
    · simp (disch := omega) only [hag]; exact r3 r hr
    · simp (disch := omega) only [hag]; exact r4 j hj
    · rw [hag 52 (by omega)] at hc
      obtain ⟨b, b1, b2⟩ := r5 c hc
      have : nn (s 52) ≤ 4 := by rw [sv_nC hS]; exact hS.1.2.2.2.1
      exact ⟨b, b1, ch_ag (by omega) (fun k h1 h2 => hag k (by omega)) b2⟩
theorem m_book (hS : SV s W C y Hn R T) (hR : WR F o A Cf h s) (x1 x2 x3 : Int32) : ∃ v w3 w14 w15 w16 t, pX11_book (o 0) (o 1) Cf (o 3) (A 14) (A 15) (A 16) x1 x2 x3 = some (v, w3, w14, w15, w16) ∧ pX12_book s x1 x2 x3 = some (v, t) ∧ SW F (gu o 3 w3) (gu (gu (gu A 14 w14) 15 w15) 16 w16) Cf h t := by
  unfold pX11_book pX12_book
  have hsame : SW F (gu o 3 (o 3)) (gu (gu (gu A 14 (A 14)) 15 (A 15)) 16 (A 16)) Cf h s := by rw [gu_self, gu_self, gu_self, gu_self]; exact ⟨⟨W, C, y, Hn, R, T, hS⟩, hR⟩
  obtain ⟨q0, q1, -, q3, -⟩ := wr_o hS hR
  obtain ⟨⟨e0, e1, e2, e3, e4, e5, e6, e7⟩, r2, r3, r4, r5, r6, r7⟩ := id hR
  obtain ⟨⟨hW, h10, hC, h4, hy0, hy2, hV0, hK⟩, hy9, s53, h5, s54, h20, s55, h100, n1, n2, hB, hT, h56⟩ := id hS
  rcases x_lt x1 (n := W) (by omega) with ⟨w, hw, rfl⟩ | hx1
  · have z1 := isw_t hW h10 hw
    have z2 := c_has h10 hw
    rcases x_lt x2 (n := C) (by omega) with ⟨c, hc, rfl⟩ | hx2
    · obtain ⟨b, hb, hch⟩ := wr_cfs hS hR c hc
      have z3 := c_chief h4 hc hb
      have z4 := isc_t hC h4 hc
      by_cases hx3 : (∃ g : Nat, 1 ≤ g ∧ g ≤ 5 ∧ x3 = nI g)
      · obtain ⟨g, g1, g5, rfl⟩ := hx3
        have z5 : pX12_in (nI g) (nI 1) (nI 5) = some (nI 1) := in_nT g1 g5 (by decide)
        by_cases hf : R = 20
        · exact ⟨-nI 4, o 3, A 14, A 15, A 16, s, by simp (disch := omega) only [n_lit, nI_add, nI_1, n_cl, gck_in, gck_t, gck_T, ↓gnm_e, gbd_s, ↓reduceIte, n_leT, n_leF, n_ltT, n_ltF, n_eqT, n_eqF, Nat.add_zero, Nat.zero_add, q0, q1, z2, z3, gmt_s, q3], by simp (disch := omega) only [n_lit, nI_add, nI_1, n_cl, gck_in, gck_t, gck_T, ↓gnm_e, gbd_s, ↓reduceIte, n_leT, n_leF, n_ltT, n_ltF, n_eqT, n_eqF, Nat.add_zero, Nat.zero_add, z1, z4, z5, s54, hf], hsame⟩
        · have hag : ∀ k, k ≠ 72 + R → k ≠ 92 + R → k ≠ 112 + R → k ≠ 54 → upd (upd (upd (upd s (72 + R) (nI w)) (92 + R) (nI c)) (112 + R) (nI g)) 54 (nI (R + 1)) k = s k := fun k h1 h2 h3 h4 => by rw [pk_un h4, pk_un h3, pk_un h2, pk_un h1]
          have a54 : upd (upd (upd (upd s (72 + R) (nI w)) (92 + R) (nI c)) (112 + R) (nI g)) 54 (nI (R + 1)) 54 = nI (R + 1) := pk_us
          have a72 : upd (upd (upd (upd s (72 + R) (nI w)) (92 + R) (nI c)) (112 + R) (nI g)) 54 (nI (R + 1)) (72 + R) = nI w := by rw [pk_un (by omega), pk_un (by omega), pk_un (by omega), pk_us]
          have a92 : upd (upd (upd (upd s (72 + R) (nI w)) (92 + R) (nI c)) (112 + R) (nI g)) 54 (nI (R + 1)) (92 + R) = nI c := by rw [pk_un (by omega), pk_un (by omega), pk_us]
          have a112 : upd (upd (upd (upd s (72 + R) (nI w)) (92 + R) (nI c)) (112 + R) (nI g)) 54 (nI (R + 1)) (112 + R) = nI g := by rw [pk_un (by omega), pk_us]
          refine ⟨nI (R + 1), nI (R + 1), upd (A 14) R (nI w), upd (A 15) R (nI c), upd (A 16) R (nI g), upd (upd (upd (upd s (72 + R) (nI w)) (92 + R) (nI c)) (112 + R) (nI g)) 54 (nI (R + 1)), by simp (disch := omega) only [n_lit, nI_add, nI_1, n_cl, gck_in, gck_t, gck_T, ↓gnm_e, gbd_s, ↓reduceIte, n_leT, n_leF, n_ltT, n_ltF, n_eqT, n_eqF, Nat.add_zero, Nat.zero_add, q0, q1, z2, z3, gmt_s, q3], by simp (disch := omega) only [n_lit, nI_add, nI_1, n_cl, gck_in, gck_t, gck_T, ↓gnm_e, gbd_s, ↓reduceIte, n_leT, n_leF, n_ltT, n_ltF, n_eqT, n_eqF, Nat.add_zero, Nat.zero_add, z1, z4, z5, s54, pk_un, pk_us], ⟨W, C, y, Hn, R + 1, T, ?_⟩, ?_⟩
          · generalize upd (upd (upd (upd s (72 + R) (nI w)) (92 + R) (nI c)) (112 + R) (nI g)) 54 (nI (R + 1)) = t at *
            refine ⟨⟨(hag 51 (by omega) (by omega) (by omega) (by omega)).trans hW, h10, (hag 52 (by omega) (by omega) (by omega) (by omega)).trans hC, h4, (hag 0 (by omega) (by omega) (by omega) (by omega)).trans hy0, hy2, fun w hw => wv_ag (by omega) (fun k hk => hag k (by omega) (by omega) (by omega) (by omega)) (Nat.le_refl _) (hV0 w hw), fun c hc => cv_ag (by omega) (fun k h1 h2 => hag k (by omega) (by omega) (by omega) (by omega)) (hK c hc)⟩, hy9, (hag 53 (by omega) (by omega) (by omega) (by omega)).trans s53, h5, a54, by omega, (hag 55 (by omega) (by omega) (by omega) (by omega)).trans s55, h100, ?_, ?_, fun r hr => ?_, fun j hj => ?_, (hag 56 (by omega) (by omega) (by omega) (by omega)).trans h56⟩
            · obtain ⟨a, a1, a2⟩ := n1; exact ⟨a, a1, (hag _ (by omega) (by omega) (by omega) (by omega)).trans a2⟩
            · obtain ⟨a, a1, a2⟩ := n2; exact ⟨a, a1, (hag _ (by omega) (by omega) (by omega) (by omega)).trans a2⟩
            · by_cases er : r = R
              · subst er; exact ⟨w, c, g, hw, hc, g1, g5, a72, a92, a112⟩
              · exact rv_ag (fun k hk => hag k (by omega) (by omega) (by omega) (by omega)) (Nat.le_refl _) (Nat.le_refl _) (hB r (by omega))
            · obtain ⟨a, a1, a2⟩ := hT j hj; exact ⟨a, a1, (hag _ (by omega) (by omega) (by omega) (by omega)).trans a2⟩
          · generalize upd (upd (upd (upd s (72 + R) (nI w)) (92 + R) (nI c)) (112 + R) (nI g)) 54 (nI (R + 1)) = t at *
            refine ⟨?_, fun w hw => ?_, fun r hr => ?_, fun j hj => ?_, fun c hc => ?_, r6, hr_ag (hag 56 (by omega) (by omega) (by omega) (by omega)) (fun k hk => hag k (by omega) (by omega) (by omega) (by omega)) (sv_56 hS) r7⟩
            · unfold WO
              simp (disch := omega) only [gu_n, gu_s, hag, a54]
              exact ⟨e0, e1, e2, trivial, e4, e5, e6, e7⟩
            · simp (disch := omega) only [gu_n, hag]; exact r2 w hw
            · simp (disch := omega) only [gu_n, gu_s]
              by_cases er : r = R
              · subst er; rw [pk_us, pk_us, pk_us, a72, a92, a112]; exact ⟨rfl, rfl, rfl⟩
              · rw [pk_un er, pk_un er, pk_un er, hag _ (by omega) (by omega) (by omega) (by omega), hag _ (by omega) (by omega) (by omega) (by omega), hag _ (by omega) (by omega) (by omega) (by omega)]; exact r3 r hr
            · simp (disch := omega) only [gu_n, hag]; exact r4 j hj
            · rw [hag 52 (by omega) (by omega) (by omega) (by omega)] at hc
              obtain ⟨b, b1, b2⟩ := r5 c hc
              have : nn (s 52) ≤ 4 := by rw [sv_nC hS]; exact hS.1.2.2.2.1
              exact ⟨b, b1, ch_ag (by omega) (fun k h1 h2 => hag k (by omega) (by omega) (by omega) (by omega)) b2⟩
      · have hx : x3 < nI 1 ∨ nI 5 < x3 := by
          rcases x_in x3 (n := 5) (by decide) with ⟨j, j5, rfl⟩ | hx
          · left
            rw [n_lt (by omega) (by omega)]
            by_cases z : 1 ≤ j
            · exact absurd ⟨j, z, j5, rfl⟩ hx3
            · omega
          · exact hx.elim (fun z => Or.inl (n_lt01 z)) Or.inr
        have z5 : pX12_in x3 (nI 1) (nI 5) = some (nI 0) := in_f hx
        refine ⟨-nI 2, o 3, A 14, A 15, A 16, s, ?_, by simp (disch := omega) only [n_lit, nI_add, nI_1, n_cl, gck_in, gck_t, gck_T, ↓gnm_e, gbd_s, ↓reduceIte, n_leT, n_leF, n_ltT, n_ltF, n_eqT, n_eqF, Nat.add_zero, Nat.zero_add, z1, z4, z5], hsame⟩
        rw [q0, z2, gbd_s, ib1, q1, z3, gbd_s, gmt_s]
        by_cases w0 : x3 < 1
        · rw [if_pos w0]; rfl
        · rw [if_neg w0, if_neg (show ¬ x3 ≤ 5 from n_nle.mpr (hx.resolve_left w0))]; rfl
    · have z3 := cat_f (Cf := Cf) hx2
      have z4 := isc_f hC h4 hx2
      exact ⟨-nI 1, o 3, A 14, A 15, A 16, s, by rw [q0, z2, gbd_s, ib1, q1, z3, gbd_s, gmt_n]; rfl, by rw [z1, gbd_s, ib1, z4, gbd_s, ib0]; rfl, hsame⟩
  · have z1 := isw_f hW h10 hx1
    have z2 := has_f hx1
    exact ⟨-nI 1, o 3, A 14, A 15, A 16, s, by rw [q0, z2, gbd_s, ib0]; rfl, by rw [z1, gbd_s, ib0]; rfl, hsame⟩
end MUT
