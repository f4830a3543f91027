/-! PURE SIDE: worker, a new chief, asked -/
/-- more objects than before -/
def FE (F F' : gF) : Prop := (∀ b, chv F b = true → chv F' b = true ∧ ck F' b = ck F b ∧ cn F' b = cn F b ∧ cv F' b = cv F b ∧ cd F' b = cd F b) ∧ (∀ h, hsv F h = true → hsv F' h = true ∧ (∀ k, hI F' h k = hI F h k) ∧ (∀ k, ha F' h k = ha F h k) ∧ hn F' h = hn F h) ∧ gpl F' = gpl F
theorem fe_ch {F F' : gF} (h : FE F F') {b c : Nat} {s : Nat → Int32} (hc : CH F b s c) : CH F' b s c := by
  obtain ⟨h1, h2, h3, h4, h5⟩ := hc
  obtain ⟨q1, q2, q3, q4, q5⟩ := h.1 b h1
  exact ⟨q1, q2.trans h2, q3.trans h3, q4.trans h4, q5.trans h5⟩
theorem fe_hr {F F' : gF} (h : FE F F') {b : Nat} {s : Nat → Int32} (hc : HR F b s) : HR F' b s := by
  obtain ⟨h0, ⟨a, a1, a2, a3⟩, ⟨b', b1', b2', b3'⟩, ⟨c, c1, c2, c3⟩, fr, N, q1, q2, p1, p2, p3, p4, p5, D, p6, p7, p8⟩ := hc
  obtain ⟨r1, r2, r3, r4⟩ := h.2.1 b h0
  refine ⟨r1, ⟨a, a1, a2, (r2 0).trans a3⟩, ⟨b', b1', b2', (r2 1).trans b3'⟩, ⟨c, c1, c2, (r2 2).trans c3⟩, fr, N, q1, q2, (r2 10).trans p1, by rw [r4]; exact p2, by rw [r4]; exact p3, p4, p5, D, p6, p7, fun i hi => ?_⟩
  rw [r3, r3, r3]; exact p8 i hi
theorem fe_wr {F F' : gF} (h : FE F F') {o : Nat → Int32} {A : Nat → Nat → Int32} {Cf : Nat → Option Nat} {hh : Nat} {s : Nat → Int32} (hR : WR F o A Cf hh s) : WR F' o A Cf hh s := by
  obtain ⟨r1, r2, r3, r4, r5, r6, r7⟩ := hR
  refine ⟨r1, r2, r3, r4, fun c hc => ?_, fun c hc => ?_, fe_hr h r7⟩
  · obtain ⟨b, b1, b2⟩ := r5 c hc
    exact ⟨b, b1, fe_ch h b2⟩
  · have := r6 c hc
    cases e : Cf c with
    | none => rfl
    | some b => rw [e] at this; exact (h.1 b this).1
theorem fe_pl {F F' : gF} (h : FE F F') (hP : PLF F) : PLF F' := by
  obtain ⟨q1, q2, q3, q4, q5⟩ := h.1 _ hP.1
  unfold PLF
  rw [h.2.2]
  exact ⟨q1, q2.trans hP.2.1, q4.trans hP.2.2⟩
theorem fe_sw {F F' : gF} (h : FE F F') {o : Nat → Int32} {A : Nat → Nat → Int32} {Cf : Nat → Option Nat} {hh : Nat} {s : Nat → Int32} (hR : SW F o A Cf hh s) : SW F' o A Cf hh s := ⟨hR.1, fe_wr h hR.2⟩
section ASK
variable {F : gF} {o : Nat → Int32} {A : Nat → Nat → Int32} {Cf : Nat → Option Nat} {h : Nat} {s : Nat → Int32} {W C y Hn R T : Nat}
theorem m_worker (hS : SV s W C y Hn R T) (hR : WR F o A Cf h s) (x1 x2 x3 x4 : Int32) : ∃ v w0 w8 w9 w10 w11 w12 t, pX11_worker (o 1) Cf (o 0) (A 8) (A 9) (A 10) (A 11) (A 12) x1 x2 x3 x4 = some (v, w0, w8, w9, w10, w11, w12) ∧ pX12_worker s x1 x2 x3 x4 = some (v, t) ∧ SW F (gu o 0 w0) (gu (gu (gu (gu (gu A 8 w8) 9 w9) 10 w10) 11 w11) 12 w12) Cf h t := by
  unfold pX11_worker pX12_worker
  have hsame : SW F (gu o 0 (o 0)) (gu (gu (gu (gu (gu A 8 (A 8)) 9 (A 9)) 10 (A 10)) 11 (A 11)) 12 (A 12)) Cf h s := by rw [gu_self, gu_self, gu_self, gu_self, gu_self, gu_self]; exact ⟨⟨W, C, y, Hn, R, T, hS⟩, hR⟩
  obtain ⟨q0, q1, -⟩ := wr_o hS hR
  obtain ⟨⟨e0, e1, e2, e3, e4, e5, e6, e7⟩, r2, r3, r4, r5, r6, r7⟩ := id hR
  obtain ⟨⟨hW, h10, hC, h4, hy0, hy2, hV0, hK⟩, hy9, s53, h5, s54, h20, s55, h100, n1, n2, hB, hT, h56⟩ := id hS
  rcases x_lt x1 (n := C) (by omega) with ⟨c, hc, rfl⟩ | hx1
  · obtain ⟨b, hb, hch⟩ := wr_cfs hS hR c hc
    have z3 := c_chief h4 hc hb
    have z4 := isc_t hC h4 hc
    rcases x_in x2 (n := 99) (by decide) with ⟨a, ha, rfl⟩ | hx2
    · have u1 : pX12_in (nI a) (nI 0) (nI 99) = some (nI 1) := in_nT (a := 0) (by omega) ha (by decide)
      have u2 : pX11_isWithin (nI a) (nI 99) = some (nI 1) := wi_nT ha (by decide)
      rcases x_in x3 (n := 99) (by decide) with ⟨l, hl, rfl⟩ | hx3
      · have u3 : pX12_in (nI l) (nI 0) (nI 99) = some (nI 1) := in_nT (a := 0) (by omega) hl (by decide)
        have u4 : pX11_isWithin (nI l) (nI 99) = some (nI 1) := wi_nT hl (by decide)
        rcases x_in x4 (n := 9) (by decide) with ⟨d, hd, rfl⟩ | hx4
        · have u5 : pX12_in (nI d) (nI 0) (nI 9) = some (nI 1) := in_nT (a := 0) (by omega) hd (by decide)
          have u6 : pX11_isWithin (nI d) (nI 9) = some (nI 1) := wi_nT hd (by decide)
          by_cases hf : W = 10
          · exact ⟨-nI 4, o 0, A 8, A 9, A 10, A 11, A 12, s, by simp (disch := omega) only [n_lit, nI_add, nI_1, n_cl, gck_in, gck_t, gck_T, ↓gnm_e, gbd_s, ↓reduceIte, n_leT, n_leF, n_ltT, n_ltF, n_eqT, n_eqF, Nat.add_zero, Nat.zero_add, q1, z3, gmt_s, u2, u4, u6, q0], by simp (disch := omega) only [n_lit, nI_add, nI_1, n_cl, gck_in, gck_t, gck_T, ↓gnm_e, gbd_s, ↓reduceIte, n_leT, n_leF, n_ltT, n_ltF, n_eqT, n_eqF, Nat.add_zero, Nat.zero_add, z4, u1, u3, u5, hW, hf], hsame⟩
          · have hc1 : pX11_worker (o 1) Cf (o 0) (A 8) (A 9) (A 10) (A 11) (A 12) (nI c) (nI a) (nI l) (nI d) = some (nI W, nI (W + 1), upd (A 8) W (nI a), upd (A 9) W (nI l), upd (A 10) W (nI c), upd (A 11) W (nI d), upd (A 12) W (nI 0)) := by
              unfold pX11_worker
              simp (disch := omega) only [n_lit, nI_add, nI_1, n_cl, gck_in, gck_t, gck_T, ↓gnm_e, gbd_s, ↓reduceIte, n_leT, n_leF, n_ltT, n_ltF, n_eqT, n_eqF, Nat.add_zero, Nat.zero_add, q1, z3, gmt_s, u2, u4, u6, q0]
            have hc2 : pX12_worker s (nI c) (nI a) (nI l) (nI d) = some (nI W, upd (upd (upd (upd (upd (upd s (31 + W) (nI c)) (1 + W) (nI a)) (11 + W) (nI l)) (41 + W) (nI d)) (21 + W) (nI 0)) 51 (nI (W + 1))) := by
              unfold pX12_worker
              simp (disch := omega) only [n_lit, nI_add, nI_1, n_cl, gck_in, gck_t, gck_T, ↓gnm_e, gbd_s, ↓reduceIte, n_leT, n_leF, n_ltT, n_ltF, n_eqT, n_eqF, Nat.add_zero, Nat.zero_add, z4, u1, u3, u5, hW, pk_un]
            have a51 : upd (upd (upd (upd (upd (upd s (31 + W) (nI c)) (1 + W) (nI a)) (11 + W) (nI l)) (41 + W) (nI d)) (21 + W) (nI 0)) 51 (nI (W + 1)) 51 = nI (W + 1) := pk_us
            have a31 : upd (upd (upd (upd (upd (upd s (31 + W) (nI c)) (1 + W) (nI a)) (11 + W) (nI l)) (41 + W) (nI d)) (21 + W) (nI 0)) 51 (nI (W + 1)) (31 + W) = nI c := by simp (disch := omega) only [pk_un, pk_us]
            have a1 : upd (upd (upd (upd (upd (upd s (31 + W) (nI c)) (1 + W) (nI a)) (11 + W) (nI l)) (41 + W) (nI d)) (21 + W) (nI 0)) 51 (nI (W + 1)) (1 + W) = nI a := by simp (disch := omega) only [pk_un, pk_us]
            have a11 : upd (upd (upd (upd (upd (upd s (31 + W) (nI c)) (1 + W) (nI a)) (11 + W) (nI l)) (41 + W) (nI d)) (21 + W) (nI 0)) 51 (nI (W + 1)) (11 + W) = nI l := by simp (disch := omega) only [pk_un, pk_us]
            have a41 : upd (upd (upd (upd (upd (upd s (31 + W) (nI c)) (1 + W) (nI a)) (11 + W) (nI l)) (41 + W) (nI d)) (21 + W) (nI 0)) 51 (nI (W + 1)) (41 + W) = nI d := by simp (disch := omega) only [pk_un, pk_us]
            have a21 : upd (upd (upd (upd (upd (upd s (31 + W) (nI c)) (1 + W) (nI a)) (11 + W) (nI l)) (41 + W) (nI d)) (21 + W) (nI 0)) 51 (nI (W + 1)) (21 + W) = nI 0 := by simp (disch := omega) only [pk_un, pk_us]
            have hag : ∀ k, k ≠ 31 + W → k ≠ 1 + W → k ≠ 11 + W → k ≠ 41 + W → k ≠ 21 + W → k ≠ 51 → upd (upd (upd (upd (upd (upd s (31 + W) (nI c)) (1 + W) (nI a)) (11 + W) (nI l)) (41 + W) (nI d)) (21 + W) (nI 0)) 51 (nI (W + 1)) k = s k := fun k p1 p2 p3 p4 p5 p6 => by rw [pk_un p6, pk_un p5, pk_un p4, pk_un p3, pk_un p2, pk_un p1]
            unfold pX11_worker at hc1
            unfold pX12_worker at hc2
            refine ⟨_, _, _, _, _, _, _, _, hc1, hc2, ?_⟩
            generalize upd (upd (upd (upd (upd (upd s (31 + W) (nI c)) (1 + W) (nI a)) (11 + W) (nI l)) (41 + W) (nI d)) (21 + W) (nI 0)) 51 (nI (W + 1)) = t at *
            have hg : ∀ k, (k = 0 ∨ 52 ≤ k) → t k = s k := fun k hk => hag k (by omega) (by omega) (by omega) (by omega) (by omega) (by omega)
            refine ⟨⟨W + 1, C, y, Hn, R, T, ?_⟩, ?_⟩
            · refine ⟨⟨a51, by omega, (hg 52 (by omega)).trans hC, h4, (hg 0 (by omega)).trans hy0, hy2, fun w hw => ?_, fun c hc => cv_ag (by omega) (fun k h1 h2 => hg k (by omega)) (hK c hc)⟩, hy9, (hg 53 (by omega)).trans s53, h5, (hg 54 (by omega)).trans s54, h20, (hg 55 (by omega)).trans s55, h100, ?_, ?_, fun r hr => rv_ag (fun k hk => hg k (by omega)) (by omega) (Nat.le_refl _) (hB r hr), fun j hj => ?_, (hg 56 (by omega)).trans h56⟩
              · by_cases ew : w = W
                · subst ew; exact ⟨a, l, d, 0, c, ha, hl, hd, by omega, hc, a1, a11, a41, a21, a31⟩
                · exact wv_ag (by omega) (fun k hk => hag k (by omega) (by omega) (by omega) (by omega) (by omega) (by omega)) (Nat.le_refl _) (hV0 w (by omega))
              · obtain ⟨a, x1, x2⟩ := n1; exact ⟨a, x1, (hg _ (by omega)).trans x2⟩
              · obtain ⟨a, x1, x2⟩ := n2; exact ⟨a, x1, (hg _ (by omega)).trans x2⟩
              · obtain ⟨a, x1, x2⟩ := hT j hj; exact ⟨a, x1, (hg _ (by omega)).trans x2⟩
            · refine ⟨?_, fun w hw => ?_, fun r hr => ?_, fun j hj => ?_, fun c hc => ?_, r6, hr_ag (hg 56 (by omega)) (fun k hk => hg k (by omega)) (sv_56 hS) r7⟩
              · unfold WO
                simp (disch := omega) only [gu_n, gu_s, hg, a51]
                exact ⟨trivial, e1, e2, e3, e4, e5, e6, e7⟩
              · simp (disch := omega) only [gu_n, gu_s]
                by_cases ew : w = W
                · subst ew
                  rw [pk_us, pk_us, pk_us, pk_us, pk_us, a1, a11, a31, a41, a21]
                  exact ⟨rfl, rfl, rfl, rfl, rfl⟩
                · obtain ⟨p8, p9, p10, p11, p12⟩ := r2 w hw
                  simp (disch := omega) only [pk_un, hag]
                  exact ⟨p8, p9, p10, p11, p12⟩
              · simp (disch := omega) only [gu_n, hg]; exact r3 r hr
              · simp (disch := omega) only [gu_n, hg]; exact r4 j hj
              · rw [hg 52 (by omega)] at hc
                obtain ⟨b, b1, b2⟩ := r5 c hc
                have : nn (s 52) ≤ 4 := by rw [sv_nC hS]; exact hS.1.2.2.2.1
                exact ⟨b, b1, ch_ag (by omega) (fun k h1 h2 => hg k (by omega)) b2⟩
        · have u5 : pX12_in x4 (nI 0) (nI 9) = some (nI 0) := in_f hx4
          have u6 : pX11_isWithin x4 (nI 9) = some (nI 0) := wi_f hx4
          exact ⟨-nI 2, o 0, A 8, A 9, A 10, A 11, A 12, s, by simp (disch := omega) only [n_lit, nI_add, nI_1, n_cl, gck_in, gck_t, gck_T, ↓gnm_e, gbd_s, ↓reduceIte, n_leT, n_leF, n_ltT, n_ltF, n_eqT, n_eqF, Nat.add_zero, Nat.zero_add, q1, z3, gmt_s, u2, u4, u6], by simp (disch := omega) only [n_lit, nI_add, nI_1, n_cl, gck_in, gck_t, gck_T, ↓gnm_e, gbd_s, ↓reduceIte, n_leT, n_leF, n_ltT, n_ltF, n_eqT, n_eqF, Nat.add_zero, Nat.zero_add, z4, u1, u3, u5], hsame⟩
      · have u3 : pX12_in x3 (nI 0) (nI 99) = some (nI 0) := in_f hx3
        have u4 : pX11_isWithin x3 (nI 99) = some (nI 0) := wi_f hx3
        exact ⟨-nI 2, o 0, A 8, A 9, A 10, A 11, A 12, s, by simp (disch := omega) only [n_lit, nI_add, nI_1, n_cl, gck_in, gck_t, gck_T, ↓gnm_e, gbd_s, ↓reduceIte, n_leT, n_leF, n_ltT, n_ltF, n_eqT, n_eqF, Nat.add_zero, Nat.zero_add, q1, z3, gmt_s, u2, u4], by simp (disch := omega) only [n_lit, nI_add, nI_1, n_cl, gck_in, gck_t, gck_T, ↓gnm_e, gbd_s, ↓reduceIte, n_leT, n_leF, n_ltT, n_ltF, n_eqT, n_eqF, Nat.add_zero, Nat.zero_add, z4, u1, u3], hsame⟩
    · have u1 : pX12_in x2 (nI 0) (nI 99) = some (nI 0) := in_f hx2
      have u2 : pX11_isWithin x2 (nI 99) = some (nI 0) := wi_f hx2
      exact ⟨-nI 2, o 0, A 8, A 9, A 10, A 11, A 12, s, by simp (disch := omega) only [n_lit, nI_add, nI_1, n_cl, gck_in, gck_t, gck_T, ↓gnm_e, gbd_s, ↓reduceIte, n_leT, n_leF, n_ltT, n_ltF, n_eqT, n_eqF, Nat.add_zero, Nat.zero_add, q1, z3, gmt_s, u2], by simp (disch := omega) only [n_lit, nI_add, nI_1, n_cl, gck_in, gck_t, gck_T, ↓gnm_e, gbd_s, ↓reduceIte, n_leT, n_leF, n_ltT, n_ltF, n_eqT, n_eqF, Nat.add_zero, Nat.zero_add, z4, u1], hsame⟩
  · have z3 := cat_f (Cf := Cf) hx1
    have z4 := isc_f hC h4 hx1
    exact ⟨-nI 1, o 0, A 8, A 9, A 10, A 11, A 12, s, by rw [q1, z3, gbd_s, gmt_n]; rfl, by rw [z4, gbd_s, ib0]; rfl, hsame⟩
/-- the row with a new chief -/
def nc (s : Nat → Int32) (C k v d : Nat) : Nat → Int32 := upd (upd (upd (upd s (60 + C) (nI k)) (64 + C) (nI v)) (68 + C) (nI d)) 52 (nI (C + 1))
theorem r_chief (hS : SV s W C y Hn R T) {k v d : Nat} (hk : k ≤ 6) (hv : v ≤ 9) (hd : d ≤ 9) (hC4 : C < 4) : pX12_chief s (nI k) (nI v) (nI d) = some (nI C, nc s C k v d) := by
  obtain ⟨⟨hW, h10, hC, h4, -⟩, -⟩ := id hS
  have u1 : pX12_in (nI k) (nI 0) (nI 6) = some (nI 1) := in_nT (a := 0) (by omega) hk (by decide)
  have u3 : pX12_in (nI v) (nI 0) (nI 9) = some (nI 1) := in_nT (a := 0) (by omega) hv (by decide)
  have u5 : pX12_in (nI d) (nI 0) (nI 9) = some (nI 1) := in_nT (a := 0) (by omega) hd (by decide)
  unfold pX12_chief nc
  simp (disch := omega) only [n_lit, nI_add, nI_1, n_cl, gck_in, gck_t, gck_T, ↓gnm_e, gbd_s, ↓reduceIte, n_leT, n_leF, n_ltT, n_ltF, n_eqT, n_eqF, Nat.add_zero, Nat.zero_add, u1, u3, u5, hC, pk_un]
theorem sw_chief (hS : SV s W C y Hn R T) (hR : WR F o A Cf h s) {k v d b : Nat} (hk : k ≤ 6) (hv : v ≤ 9) (hd : d ≤ 9) (hC4 : C < 4) (hb : chv F b = true ∧ ck F b = nI k ∧ cn F b = nI C ∧ cv F b = nI v ∧ cd F b = nI d) : SW F (gu o 1 (nI (C + 1))) A (va_up Cf C (some b)) h (nc s C k v d) := by
  obtain ⟨⟨e0, e1, e2, e3, e4, e5, e6, e7⟩, r2, r3, r4, r5, r6, r7⟩ := id hR
  obtain ⟨⟨hW, h10, hC, h4, hy0, hy2, hV0, hK⟩, hy9, s53, h5, s54, h20, s55, h100, n1, n2, hB, hT, h56⟩ := id hS
  have a52 : nc s C k v d 52 = nI (C + 1) := pk_us
  have a60 : nc s C k v d (60 + C) = nI k := by unfold nc; simp (disch := omega) only [pk_un, pk_us]
  have a64 : nc s C k v d (64 + C) = nI v := by unfold nc; simp (disch := omega) only [pk_un, pk_us]
  have a68 : nc s C k v d (68 + C) = nI d := by unfold nc; simp (disch := omega) only [pk_un, pk_us]
  have hag : ∀ j, j ≠ 60 + C → j ≠ 64 + C → j ≠ 68 + C → j ≠ 52 → nc s C k v d j = s j := fun j p1 p2 p3 p4 => by unfold nc; rw [pk_un p4, pk_un p3, pk_un p2, pk_un p1]
  generalize nc s C k v d = t at *
  have hg : ∀ j, (j < 52 ∨ (53 ≤ j ∧ j < 60) ∨ 72 ≤ j) → t j = s j := fun j hj => hag j (by omega) (by omega) (by omega) (by omega)
  refine ⟨⟨W, C + 1, y, Hn, R, T, ?_⟩, ?_⟩
  · refine ⟨⟨(hg 51 (by omega)).trans hW, h10, a52, by omega, (hg 0 (by omega)).trans hy0, hy2, fun w hw => wv_ag (by omega) (fun k hk => hg k (by omega)) (by omega) (hV0 w hw), fun c hc => ?_⟩, hy9, (hg 53 (by omega)).trans s53, h5, (hg 54 (by omega)).trans s54, h20, (hg 55 (by omega)).trans s55, h100, ?_, ?_, fun r hr => rv_ag (fun k hk => hg k (by omega)) (Nat.le_refl _) (by omega) (hB r hr), fun j hj => ?_, (hg 56 (by omega)).trans h56⟩
    · by_cases ec : c = C
      · subst ec; exact ⟨k, v, d, hk, hv, hd, a60, a64, a68⟩
      · obtain ⟨k', v', d', q1, q2, q3, f1, f2, f3⟩ := hK c (by omega)
        exact ⟨k', v', d', q1, q2, q3, (hag _ (by omega) (by omega) (by omega) (by omega)).trans f1, (hag _ (by omega) (by omega) (by omega) (by omega)).trans f2, (hag _ (by omega) (by omega) (by omega) (by omega)).trans f3⟩
    · obtain ⟨a, x1, x2⟩ := n1; exact ⟨a, x1, (hg _ (by omega)).trans x2⟩
    · obtain ⟨a, x1, x2⟩ := n2; exact ⟨a, x1, (hg _ (by omega)).trans x2⟩
    · obtain ⟨a, x1, x2⟩ := hT j hj; exact ⟨a, x1, (hg _ (by omega)).trans x2⟩
  · refine ⟨?_, fun w hw => ?_, fun r hr => ?_, fun j hj => ?_, fun c hc => ?_, fun c hc => ?_, hr_ag (hg 56 (by omega)) (fun k hk => hg k (by omega)) (sv_56 hS) r7⟩
    · unfold WO
      simp (disch := omega) only [gu_n, gu_s, hg, a52]
      exact ⟨e0, trivial, e2, e3, e4, e5, e6, e7⟩
    · simp (disch := omega) only [hg]; exact r2 w hw
    · simp (disch := omega) only [hg]; exact r3 r hr
    · simp (disch := omega) only [hg]; exact r4 j hj
    · rw [a52, show nn (nI (C + 1)) = C + 1 from n_cl (by omega)] at hc
      unfold va_up
      by_cases ec : c = C
      · subst ec
        rw [if_pos rfl]
        exact ⟨b, rfl, hb.1, hb.2.1.trans a60.symm, hb.2.2.1, hb.2.2.2.1.trans a64.symm, hb.2.2.2.2.trans a68.symm⟩
      · rw [if_neg ec]
        obtain ⟨b', b1, c1, c2, c3, c4, c5⟩ := r5 c (by rw [sv_nC hS]; omega)
        exact ⟨b', b1, c1, c2.trans (hag _ (by omega) (by omega) (by omega) (by omega)).symm, c3, c4.trans (hag _ (by omega) (by omega) (by omega) (by omega)).symm, c5.trans (hag _ (by omega) (by omega) (by omega) (by omega)).symm⟩
    · unfold va_up
      by_cases ec : c = C
      · rw [if_pos ec]; exact hb.1
      · rw [if_neg ec]; exact r6 c hc
end ASK
