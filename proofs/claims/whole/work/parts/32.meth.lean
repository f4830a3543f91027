/-! PURE SIDE: methods that ask -/
theorem ib0 {α : Type} (a b : α) : (if nI 0 = (0 : Int32) then a else b) = a := if_pos rfl
theorem ib1 {α : Type} (a b : α) : (if nI 1 = (0 : Int32) then a else b) = b := if_neg (by decide)
section METH
variable {F : gF} {o : Nat → Int32} {A : Nat → Nat → Int32} {Cf : Nat → Option Nat} {h : Nat} {s : Nat → Int32} {W C y Hn R T : Nat}
theorem m_told (hS : SV s W C y Hn R T) (hR : WR F o A Cf h s) (x : Int32) : ∃ v, pX11_told F (o 5) (o 6) (o 7) h x = some v ∧ pX12_told s x = some v := by
  obtain ⟨-, -, -, -, -, e5, e6, e7⟩ := hR.1
  obtain ⟨q0, ⟨a, -, a2, a3⟩, ⟨b, -, b2, b3⟩, ⟨c, -, c2, c3⟩, -⟩ := wr_hr hR
  unfold pX11_told
  by_cases x0 : x = 0
  · subst x0; exact ⟨nI a, by rw [if_pos rfl, gck_t q0, a3], a2⟩
  · rw [if_neg x0]
    by_cases x1 : x = 1
    · subst x1; exact ⟨nI b, by rw [if_pos rfl, gck_t q0, b3], b2⟩
    · rw [if_neg x1]
      by_cases x2 : x = 2
      · subst x2; exact ⟨nI c, by rw [if_pos rfl, gck_t q0, c3], c2⟩
      · rw [if_neg x2]
        unfold pX12_told
        rw [if_neg x0, if_neg x1, if_neg x2]
        by_cases x3 : x = 3
        · rw [if_pos x3, if_pos x3]
          exact ⟨s 0, by rw [e5], by simp (disch := omega) only [n_lit, nI_add, nI_1, n_cl, gck_in, gck_t, gck_T, ↓gnm_e, gbd_s, ↓reduceIte, n_leT, n_leF, n_ltT, n_ltF, n_eqT, n_eqF, Nat.add_zero, Nat.zero_add]⟩
        · rw [if_neg x3, if_neg x3]
          by_cases x4 : x = 4
          · rw [if_pos x4, if_pos x4]
            exact ⟨s 57, by rw [e6], by simp (disch := omega) only [n_lit, nI_add, nI_1, n_cl, gck_in, gck_t, gck_T, ↓gnm_e, gbd_s, ↓reduceIte, n_leT, n_leF, n_ltT, n_ltF, n_eqT, n_eqF, Nat.add_zero, Nat.zero_add]⟩
          · rw [if_neg x4, if_neg x4]
            by_cases x5 : x = 5
            · rw [if_pos x5, if_pos x5]
              exact ⟨s 58, by rw [e7], by simp (disch := omega) only [n_lit, nI_add, nI_1, n_cl, gck_in, gck_t, gck_T, ↓gnm_e, gbd_s, ↓reduceIte, n_leT, n_leF, n_ltT, n_ltF, n_eqT, n_eqF, Nat.add_zero, Nat.zero_add]⟩
            · rw [if_neg x5, if_neg x5]
              exact ⟨_, rfl, rfl⟩
theorem m_count (hR : WR F o A Cf h s) (b x : Int32) : ∃ v, pX11_count (o 0) (o 1) (o 2) (o 3) (o 4) b x = some v ∧ pX12_count s b x = some v := by
  obtain ⟨e0, e1, e2, e3, e4, -⟩ := hR.1
  unfold pX11_count pX12_count
  by_cases x0 : x = 0
  · rw [if_pos x0, if_pos x0]; exact ⟨s 51, by rw [e0], by simp (disch := omega) only [n_lit, nI_add, nI_1, n_cl, gck_in, gck_t, gck_T, ↓gnm_e, gbd_s, ↓reduceIte, n_leT, n_leF, n_ltT, n_ltF, n_eqT, n_eqF, Nat.add_zero, Nat.zero_add]⟩
  · rw [if_neg x0, if_neg x0]
    by_cases x1 : x = 1
    · rw [if_pos x1, if_pos x1]; exact ⟨s 52, by rw [e1], by simp (disch := omega) only [n_lit, nI_add, nI_1, n_cl, gck_in, gck_t, gck_T, ↓gnm_e, gbd_s, ↓reduceIte, n_leT, n_leF, n_ltT, n_ltF, n_eqT, n_eqF, Nat.add_zero, Nat.zero_add]⟩
    · rw [if_neg x1, if_neg x1]
      by_cases x2 : x = 2
      · rw [if_pos x2, if_pos x2]; exact ⟨s 53, by rw [e2], by simp (disch := omega) only [n_lit, nI_add, nI_1, n_cl, gck_in, gck_t, gck_T, ↓gnm_e, gbd_s, ↓reduceIte, n_leT, n_leF, n_ltT, n_ltF, n_eqT, n_eqF, Nat.add_zero, Nat.zero_add]⟩
      · rw [if_neg x2, if_neg x2]
        by_cases x3 : x = 3
        · rw [if_pos x3, if_pos x3]; exact ⟨s 54, by rw [e3], by simp (disch := omega) only [n_lit, nI_add, nI_1, n_cl, gck_in, gck_t, gck_T, ↓gnm_e, gbd_s, ↓reduceIte, n_leT, n_leF, n_ltT, n_ltF, n_eqT, n_eqF, Nat.add_zero, Nat.zero_add]⟩
        · rw [if_neg x3, if_neg x3]
          by_cases x4 : x = 4
          · rw [if_pos x4, if_pos x4]; exact ⟨s 55, by rw [e4], by simp (disch := omega) only [n_lit, nI_add, nI_1, n_cl, gck_in, gck_t, gck_T, ↓gnm_e, gbd_s, ↓reduceIte, n_leT, n_leF, n_ltT, n_ltF, n_eqT, n_eqF, Nat.add_zero, Nat.zero_add]⟩
          · rw [if_neg x4, if_neg x4]
            by_cases x5 : x = 5
            · rw [if_pos x5]; exact ⟨b, rfl, rfl⟩
            · rw [if_neg x5]; exact ⟨_, rfl, rfl⟩
theorem r_by43 (hI : IV s W C y) {c : Nat} {x2 : Int32} : ∀ k n x : Nat, x + k = W → k < n → pX12_by_43 s n (nI c) x2 (nI (tb (TT s c) x)) (nI x) = pX12_by_86 s (nI c) x2 (nI (tb (TT s c) W)) := by
  have hW := hI.1
  have h10 := hI.2.1
  intro k
  induction k with
  | zero =>
    intro n x e hn
    obtain ⟨n, rfl⟩ : ∃ j, n = j + 1 := ⟨n - 1, by omega⟩
    have e2 : x = W := by omega
    subst e2
    simp (disch := omega) only [pX12_by_43, n_lit, nI_add, nI_1, n_cl, gck_in, gck_t, gck_T, ↓gnm_e, gbd_s, ↓reduceIte, n_leT, n_leF, n_ltT, n_ltF, n_eqT, n_eqF, Nat.add_zero, Nat.zero_add, hW]
  | succ k ih =>
    intro n x e hn
    obtain ⟨n, rfl⟩ : ∃ j, n = j + 1 := ⟨n - 1, by omega⟩
    have z := ih n (x + 1) (by omega) (by omega)
    by_cases q : s (31 + x) = nI c
    · have hq : TT s c x = true := by rw [tt_eq hI]; exact pT_iff.mpr ⟨by omega, q⟩
      rw [tb_t hq] at z
      simp (disch := omega) only [pX12_by_43, n_lit, nI_add, nI_1, n_cl, gck_in, gck_t, gck_T, ↓gnm_e, gbd_s, ↓reduceIte, n_leT, n_leF, n_ltT, n_ltF, n_eqT, n_eqF, Nat.add_zero, Nat.zero_add, hW, q, tb_or x (show x < 10 by omega) _ (tb_lt (TT s c) x), z]
    · have hq : ¬ TT s c x = true := by rw [tt_eq hI]; exact fun y => q (pT_iff.mp y).2
      rw [tb_f hq] at z
      simp (disch := omega) only [pX12_by_43, n_lit, nI_add, nI_1, n_cl, gck_in, gck_t, gck_T, ↓gnm_e, gbd_s, ↓reduceIte, n_leT, n_leF, n_ltT, n_ltF, n_eqT, n_eqF, Nat.add_zero, Nat.zero_add, hW, q, z_or0, z]
theorem x_out {x : Int32} {n : Nat} (h : x < nI 0 ∨ nI n < x) (hn : n < 1000000) : ∀ j, j ≤ n → (x = nI j) = False := fun j hj => eq_false (fun z => by
  subst z
  rcases h with z | z
  · rw [n_lt (by omega) (by omega)] at z; omega
  · rw [n_lt (by omega) (by omega)] at z; omega)
theorem m_by (hS : SV s W C y Hn R T) (hR : WR F o A Cf h s) (x1 x2 : Int32) : ∃ v, pX11_by F (o 0) (o 1) (A 10) Cf x1 x2 = some v ∧ pX12_by s x1 x2 = some v := by
  have hI := hS.1
  obtain ⟨hW, h10, hC, h4, hy, hy2, hV, hK⟩ := id hI
  obtain ⟨e0, e1, -⟩ := wr_o hS hR
  rw [e0, e1]
  unfold pX11_by pX12_by
  rcases x_lt x1 (n := C) (by omega) with ⟨c, hc, rfl⟩ | hx
  · obtain ⟨b, hb, c1, c2, c3, c4, c5⟩ := wr_cfs hS hR c hc
    have hp : ∀ w, w < W → (TT s c w = true ↔ A 10 w = nI c) := fun w hw => by
      rw [tt_eq hI, pT_iff, (wr_wa hS hR w hw).2.2.1]; exact ⟨fun z => z.2, fun z => ⟨hw, z⟩⟩
    have hbc := pc_bc (tb (TT s c) W) (tb_1024 _ h10)
    rw [pc_tb _ W h10] at hbc
    have hteam := r_teamOf hW h10 (c := nI c)
    rw [← tt_eq hI] at hteam
    have z1 := c_chief h4 hc hb
    have z2 := isc_t hC h4 hc
    have z3 := c_team h10 hp
    rcases x_in x2 (n := 4) (by decide) with ⟨j, hj, rfl⟩ | hx2
    · have hin : pX12_in (nI j) (nI 0) (nI 4) = some (nI 1) := in_nT (a := 0) (by omega) hj (by decide)
      have h43 := r_by43 (x2 := nI j) (c := c) hI W 1000 0 (by omega) (by omega)
      rw [show tb (TT s c) 0 = 0 from rfl] at h43
      rcases (show j = 0 ∨ j = 1 ∨ j = 2 ∨ j = 3 ∨ j = 4 by omega) with e | e | e | e | e <;> subst e
      · exact ⟨s (60 + c), by simp (disch := omega) only [n_lit, nI_add, nI_1, n_cl, gck_in, gck_t, gck_T, ↓gnm_e, gbd_s, ↓reduceIte, n_leT, n_leF, n_ltT, n_ltF, n_eqT, n_eqF, Nat.add_zero, Nat.zero_add, z1, gmt_s, c1, c2], by simp (disch := omega) only [n_lit, nI_add, nI_1, n_cl, gck_in, gck_t, gck_T, ↓gnm_e, gbd_s, ↓reduceIte, n_leT, n_leF, n_ltT, n_ltF, n_eqT, n_eqF, Nat.add_zero, Nat.zero_add, z2, hin, pk_mul]⟩
      · exact ⟨s (64 + c), by simp (disch := omega) only [n_lit, nI_add, nI_1, n_cl, gck_in, gck_t, gck_T, ↓gnm_e, gbd_s, ↓reduceIte, n_leT, n_leF, n_ltT, n_ltF, n_eqT, n_eqF, Nat.add_zero, Nat.zero_add, z1, gmt_s, c1, c4], by simp (disch := omega) only [n_lit, nI_add, nI_1, n_cl, gck_in, gck_t, gck_T, ↓gnm_e, gbd_s, ↓reduceIte, n_leT, n_leF, n_ltT, n_ltF, n_eqT, n_eqF, Nat.add_zero, Nat.zero_add, z2, hin, pk_mul]⟩
      · exact ⟨s (68 + c), by simp (disch := omega) only [n_lit, nI_add, nI_1, n_cl, gck_in, gck_t, gck_T, ↓gnm_e, gbd_s, ↓reduceIte, n_leT, n_leF, n_ltT, n_ltF, n_eqT, n_eqF, Nat.add_zero, Nat.zero_add, z1, gmt_s, c1, c5], by simp (disch := omega) only [n_lit, nI_add, nI_1, n_cl, gck_in, gck_t, gck_T, ↓gnm_e, gbd_s, ↓reduceIte, n_leT, n_leF, n_ltT, n_ltF, n_eqT, n_eqF, Nat.add_zero, Nat.zero_add, z2, hin, pk_mul]⟩
      · exact ⟨nI (kn (TT s c) W), by simp (disch := omega) only [n_lit, nI_add, nI_1, n_cl, gck_in, gck_t, gck_T, ↓gnm_e, gbd_s, ↓reduceIte, n_leT, n_leF, n_ltT, n_ltF, n_eqT, n_eqF, Nat.add_zero, Nat.zero_add, z1, gmt_s, z3, hbc], by simp (disch := omega) only [n_lit, nI_add, nI_1, n_cl, gck_in, gck_t, gck_T, ↓gnm_e, gbd_s, ↓reduceIte, n_leT, n_leF, n_ltT, n_ltF, n_eqT, n_eqF, Nat.add_zero, Nat.zero_add, z2, hin, h43, pX12_by_86, hteam]⟩
      · exact ⟨nI (tb (TT s c) W), by simp (disch := omega) only [n_lit, nI_add, nI_1, n_cl, gck_in, gck_t, gck_T, ↓gnm_e, gbd_s, ↓reduceIte, n_leT, n_leF, n_ltT, n_ltF, n_eqT, n_eqF, Nat.add_zero, Nat.zero_add, z1, gmt_s, z3], by simp (disch := omega) only [n_lit, nI_add, nI_1, n_cl, gck_in, gck_t, gck_T, ↓gnm_e, gbd_s, ↓reduceIte, n_leT, n_leF, n_ltT, n_ltF, n_eqT, n_eqF, Nat.add_zero, Nat.zero_add, z2, hin, h43, pX12_by_86]⟩
    · have hin : pX12_in x2 (nI 0) (nI 4) = some (nI 0) := in_f hx2
      have hne := x_out hx2 (by decide)
      exact ⟨-nI 1, by simp (disch := omega) only [n_lit, nI_add, nI_1, n_cl, gck_in, gck_t, gck_T, ↓gnm_e, gbd_s, ↓reduceIte, n_leT, n_leF, n_ltT, n_ltF, n_eqT, n_eqF, Nat.add_zero, Nat.zero_add, z1, gmt_s, hne], by simp (disch := omega) only [n_lit, nI_add, nI_1, n_cl, gck_in, gck_t, gck_T, ↓gnm_e, gbd_s, ↓reduceIte, n_leT, n_leF, n_ltT, n_ltF, n_eqT, n_eqF, Nat.add_zero, Nat.zero_add, z2, hin]⟩
  · have z1 := cat_f (Cf := Cf) hx
    have z2 := isc_f hC h4 hx
    exact ⟨-nI 1, by simp (disch := omega) only [n_lit, nI_add, nI_1, n_cl, gck_in, gck_t, gck_T, ↓gnm_e, gbd_s, ↓reduceIte, n_leT, n_leF, n_ltT, n_ltF, n_eqT, n_eqF, Nat.add_zero, Nat.zero_add, z1, gmt_n], by simp (disch := omega) only [n_lit, nI_add, nI_1, n_cl, gck_in, gck_t, gck_T, ↓gnm_e, gbd_s, ↓reduceIte, n_leT, n_leF, n_ltT, n_ltF, n_eqT, n_eqF, Nat.add_zero, Nat.zero_add, z2]⟩
theorem m_mark (hS : SV s W C y Hn R T) (hR : WR F o A Cf h s) (g5 a10 a11 : Nat → Int32) (x1 x2 : Int32) : ∃ v f5 b10 b11, pX11_mark F (o 0) (o 1) (o 5) (A 8) (A 9) (A 10) (A 11) h Cf g5 x1 x2 = some (v, f5) ∧ pX12_mark s a10 a11 x1 x2 = some (v, b10, b11) := by
  have hI := hS.1
  obtain ⟨hW, h10, hC, h4, hy, hy2, hV, hK⟩ := id hI
  obtain ⟨e0, e1, -, -, -, e5⟩ := wr_o hS hR
  rw [e0, e1, e5]
  unfold pX11_mark pX12_mark
  rcases x_lt x1 (n := W) (by omega) with ⟨w, hw, rfl⟩ | hx1
  · have z1 := isw_t hW h10 hw
    have z2 := c_has h10 hw
    rcases x_lt x2 (n := C) (by omega) with ⟨c, hc, rfl⟩ | hx2
    · obtain ⟨b, hb, hch⟩ := wr_cfs hS hR c hc
      obtain ⟨q1, q2⟩ := j_mark hI (wr_hr hR) hw hc hch
      obtain ⟨f5, k1⟩ := q2 _ _ _ _ (wr_wa hS hR) g5
      obtain ⟨b10, b11, k2⟩ := q1 a10 a11
      have z3 := c_chief h4 hc hb
      have z4 := isc_t hC h4 hc
      exact ⟨MK s w c, f5, b10, b11, by simp (disch := omega) only [n_lit, nI_add, nI_1, n_cl, gck_in, gck_t, gck_T, ↓gnm_e, gbd_s, ↓reduceIte, n_leT, n_leF, n_ltT, n_ltF, n_eqT, n_eqF, Nat.add_zero, Nat.zero_add, z3, gmt_s, z2, k1], by simp (disch := omega) only [n_lit, nI_add, nI_1, n_cl, gck_in, gck_t, gck_T, ↓gnm_e, gbd_s, ↓reduceIte, n_leT, n_leF, n_ltT, n_ltF, n_eqT, n_eqF, Nat.add_zero, Nat.zero_add, z1, z4, k2]⟩
    · have z3 := cat_f (Cf := Cf) hx2
      have z4 := isc_f hC h4 hx2
      exact ⟨-nI 1001, g5, a10, a11, by simp (disch := omega) only [n_lit, nI_add, nI_1, n_cl, gck_in, gck_t, gck_T, ↓gnm_e, gbd_s, ↓reduceIte, n_leT, n_leF, n_ltT, n_ltF, n_eqT, n_eqF, Nat.add_zero, Nat.zero_add, z3, gmt_n, z2], by simp (disch := omega) only [n_lit, nI_add, nI_1, n_cl, gck_in, gck_t, gck_T, ↓gnm_e, gbd_s, ↓reduceIte, n_leT, n_leF, n_ltT, n_ltF, n_eqT, n_eqF, Nat.add_zero, Nat.zero_add, z1, z4]⟩
  · have z1 := isw_f hW h10 hx1
    have z2 := has_f hx1
    rcases x_lt x2 (n := C) (by omega) with ⟨c, hc, rfl⟩ | hx2
    · obtain ⟨b, hb, hch⟩ := wr_cfs hS hR c hc
      have z3 := c_chief h4 hc hb
      exact ⟨-nI 1001, g5, a10, a11, by simp (disch := omega) only [n_lit, nI_add, nI_1, n_cl, gck_in, gck_t, gck_T, ↓gnm_e, gbd_s, ↓reduceIte, n_leT, n_leF, n_ltT, n_ltF, n_eqT, n_eqF, Nat.add_zero, Nat.zero_add, z3, gmt_s, z2], by simp (disch := omega) only [n_lit, nI_add, nI_1, n_cl, gck_in, gck_t, gck_T, ↓gnm_e, gbd_s, ↓reduceIte, n_leT, n_leF, n_ltT, n_ltF, n_eqT, n_eqF, Nat.add_zero, Nat.zero_add, z1]⟩
    · have z3 := cat_f (Cf := Cf) hx2
      exact ⟨-nI 1001, g5, a10, a11, by simp (disch := omega) only [n_lit, nI_add, nI_1, n_cl, gck_in, gck_t, gck_T, ↓gnm_e, gbd_s, ↓reduceIte, n_leT, n_leF, n_ltT, n_ltF, n_eqT, n_eqF, Nat.add_zero, Nat.zero_add, z3, gmt_n, z2], by simp (disch := omega) only [n_lit, nI_add, nI_1, n_cl, gck_in, gck_t, gck_T, ↓gnm_e, gbd_s, ↓reduceIte, n_leT, n_leF, n_ltT, n_ltF, n_eqT, n_eqF, Nat.add_zero, Nat.zero_add, z1]⟩
theorem m_of (hS : SV s W C y Hn R T) (hR : WR F o A Cf h s) (hP : PLF F) (gs : Int32) (g0 g1 g2 g3 g5 a10 a11 a12 a13 a14 a15 a16 : Nat → Int32) (x1 x2 : Int32) : ∃ v fs f0 f1 f2 f3 f5 b10 b11 b12 b13 b14 b15 b16, pX11_of F (o 0) (o 1) (o 5) (A 8) (A 9) (A 10) (A 11) (A 12) h Cf gs g0 g1 g2 g3 g5 x1 x2 = some (v, fs, f0, f1, f2, f3, f5) ∧ pX12_of s a10 a11 a12 a13 a14 a15 a16 x1 x2 = some (v, b10, b11, b12, b13, b14, b15, b16) := by
  have hI := hS.1
  obtain ⟨hW, h10, hC, h4, hy, hy2, hV, hK⟩ := id hI
  obtain ⟨e0, e1, -, -, -, e5⟩ := wr_o hS hR
  rw [e0, e1, e5]
  unfold pX11_of pX12_of
  rcases x_lt x1 (n := W) (by omega) with ⟨w, hw, rfl⟩ | hx1
  · obtain ⟨q8, q9, q10, q11, q12⟩ := hR.2.1 w (by omega)
    have z1 := isw_t hW h10 hw
    have z2 := c_has h10 hw
    have hA := wr_wa hS hR
    have hH := wr_hr hR
    have hcf := wr_cfs hS hR
    obtain ⟨c1, c2⟩ := iv_ch hI hw
    rcases x_in x2 (n := 8) (by decide) with ⟨j, hj, rfl⟩ | hx2
    · rcases (show j = 0 ∨ j = 1 ∨ j = 2 ∨ j = 3 ∨ j = 4 ∨ j = 5 ∨ j = 6 ∨ j = 7 ∨ j = 8 by omega) with e | e | e | e | e | e | e | e | e <;> subst e
      · exact ⟨s (1 + w), gs, g0, g1, g2, g3, g5, a10, a11, a12, a13, a14, a15, a16, by simp (disch := omega) only [n_lit, nI_add, nI_1, n_cl, gck_in, gck_t, gck_T, ↓gnm_e, gbd_s, ↓reduceIte, n_leT, n_leF, n_ltT, n_ltF, n_eqT, n_eqF, Nat.add_zero, Nat.zero_add, z2, q8], by simp (disch := omega) only [n_lit, nI_add, nI_1, n_cl, gck_in, gck_t, gck_T, ↓gnm_e, gbd_s, ↓reduceIte, n_leT, n_leF, n_ltT, n_ltF, n_eqT, n_eqF, Nat.add_zero, Nat.zero_add, z1]⟩
      · exact ⟨s (11 + w), gs, g0, g1, g2, g3, g5, a10, a11, a12, a13, a14, a15, a16, by simp (disch := omega) only [n_lit, nI_add, nI_1, n_cl, gck_in, gck_t, gck_T, ↓gnm_e, gbd_s, ↓reduceIte, n_leT, n_leF, n_ltT, n_ltF, n_eqT, n_eqF, Nat.add_zero, Nat.zero_add, z2, q9], by simp (disch := omega) only [n_lit, nI_add, nI_1, n_cl, gck_in, gck_t, gck_T, ↓gnm_e, gbd_s, ↓reduceIte, n_leT, n_leF, n_ltT, n_ltF, n_eqT, n_eqF, Nat.add_zero, Nat.zero_add, z1]⟩
      · exact ⟨s (31 + w), gs, g0, g1, g2, g3, g5, a10, a11, a12, a13, a14, a15, a16, by simp (disch := omega) only [n_lit, nI_add, nI_1, n_cl, gck_in, gck_t, gck_T, ↓gnm_e, gbd_s, ↓reduceIte, n_leT, n_leF, n_ltT, n_ltF, n_eqT, n_eqF, Nat.add_zero, Nat.zero_add, z2, q10], by simp (disch := omega) only [n_lit, nI_add, nI_1, n_cl, gck_in, gck_t, gck_T, ↓gnm_e, gbd_s, ↓reduceIte, n_leT, n_leF, n_ltT, n_ltF, n_eqT, n_eqF, Nat.add_zero, Nat.zero_add, z1]⟩
      · exact ⟨s (41 + w), gs, g0, g1, g2, g3, g5, a10, a11, a12, a13, a14, a15, a16, by simp (disch := omega) only [n_lit, nI_add, nI_1, n_cl, gck_in, gck_t, gck_T, ↓gnm_e, gbd_s, ↓reduceIte, n_leT, n_leF, n_ltT, n_ltF, n_eqT, n_eqF, Nat.add_zero, Nat.zero_add, z2, q11], by simp (disch := omega) only [n_lit, nI_add, nI_1, n_cl, gck_in, gck_t, gck_T, ↓gnm_e, gbd_s, ↓reduceIte, n_leT, n_leF, n_ltT, n_ltF, n_eqT, n_eqF, Nat.add_zero, Nat.zero_add, z1]⟩
      · exact ⟨s (21 + w), gs, g0, g1, g2, g3, g5, a10, a11, a12, a13, a14, a15, a16, by simp (disch := omega) only [n_lit, nI_add, nI_1, n_cl, gck_in, gck_t, gck_T, ↓gnm_e, gbd_s, ↓reduceIte, n_leT, n_leF, n_ltT, n_ltF, n_eqT, n_eqF, Nat.add_zero, Nat.zero_add, z2, q12], by simp (disch := omega) only [n_lit, nI_add, nI_1, n_cl, gck_in, gck_t, gck_T, ↓gnm_e, gbd_s, ↓reduceIte, n_leT, n_leF, n_ltT, n_ltF, n_eqT, n_eqF, Nat.add_zero, Nat.zero_add, z1]⟩
      · obtain ⟨b, hb, hch⟩ := hcf _ c1
        obtain ⟨k1, k2⟩ := j_mark hI hH hw c1 hch
        obtain ⟨f5, k3⟩ := k2 _ _ _ _ hA g5
        obtain ⟨b10, b11, k4⟩ := k1 a10 a11
        have z3 := c_chief h4 c1 hb
        have k5 : pX11_mark F (nI W) (nI C) (nI y) (A 8) (A 9) (A 10) (A 11) h Cf g5 (nI w) (nI (chN s w)) = some (MK s w (chN s w), f5) := by
          unfold pX11_mark
          simp (disch := omega) only [n_lit, nI_add, nI_1, n_cl, gck_in, gck_t, gck_T, ↓gnm_e, gbd_s, ↓reduceIte, n_leT, n_leF, n_ltT, n_ltF, n_eqT, n_eqF, Nat.add_zero, Nat.zero_add, z3, gmt_s, z2, k3]
        exact ⟨MK s w (chN s w), gs, g0, g1, g2, g3, f5, b10, b11, a12, a13, a14, a15, a16, by simp (disch := omega) only [n_lit, nI_add, nI_1, n_cl, gck_in, gck_t, gck_T, ↓gnm_e, gbd_s, ↓reduceIte, n_leT, n_leF, n_ltT, n_ltF, n_eqT, n_eqF, Nat.add_zero, Nat.zero_add, z2, q10, c2, k5], by simp (disch := omega) only [n_lit, nI_add, nI_1, n_cl, gck_in, gck_t, gck_T, ↓gnm_e, gbd_s, ↓reduceIte, n_leT, n_leF, n_ltT, n_ltF, n_eqT, n_eqF, Nat.add_zero, Nat.zero_add, z1, c2, k4]⟩
      · obtain ⟨fs, f0, f1, f2, f3, f5, k1⟩ := c_ghad hI hH hcf hA gs g0 g1 g2 g3 g5 hw
        obtain ⟨b10, b11, b12, b13, b15, k2, k3⟩ := r_gall hI hH (cfs_chs hcf) a10 a11 a12 a13 a15
        exact ⟨GS s w, fs, f0, f1, f2, f3, f5, b10, b11, b12, b13, a14, b15, a16, by simp (disch := omega) only [n_lit, nI_add, nI_1, n_cl, gck_in, gck_t, gck_T, ↓gnm_e, gbd_s, ↓reduceIte, n_leT, n_leF, n_ltT, n_ltF, n_eqT, n_eqF, Nat.add_zero, Nat.zero_add, z2, k1], by simp (disch := omega) only [n_lit, nI_add, nI_1, n_cl, gck_in, gck_t, gck_T, ↓gnm_e, gbd_s, ↓reduceIte, n_leT, n_leF, n_ltT, n_ltF, n_eqT, n_eqF, Nat.add_zero, Nat.zero_add, z1, k2, k3 w hw]⟩
      · obtain ⟨fs, f0, f1, f2, f3, k1, k2⟩ := c_dues hI hH hP (fun w hw => (hA w hw).1) gs g0 g1 g2 g3
        obtain ⟨b12, b14, b15, k3, k4⟩ := r_dues hI hH a12 a14 a15
        exact ⟨DU s w, fs, f0, f1, f2, f3, g5, a10, a11, b12, a13, b14, b15, a16, by simp (disch := omega) only [n_lit, nI_add, nI_1, n_cl, gck_in, gck_t, gck_T, ↓gnm_e, gbd_s, ↓reduceIte, n_leT, n_leF, n_ltT, n_ltF, n_eqT, n_eqF, Nat.add_zero, Nat.zero_add, z2, k1, k2 w hw], by simp (disch := omega) only [n_lit, nI_add, nI_1, n_cl, gck_in, gck_t, gck_T, ↓gnm_e, gbd_s, ↓reduceIte, n_leT, n_leF, n_ltT, n_ltF, n_eqT, n_eqF, Nat.add_zero, Nat.zero_add, z1, k3, k4 w hw]⟩
      · obtain ⟨fs, f0, f1, f2, f3, f5, k1, k2⟩ := c_lev hI hH hcf hA gs g0 g1 g2 g3 g5
        obtain ⟨b10, b11, b12, b13, b15, b16, k3, k4⟩ := r_lev hI hH (cfs_chs hcf) a10 a11 a12 a13 a15 a16
        exact ⟨LV s w, fs, f0, f1, f2, f3, f5, b10, b11, b12, b13, a14, b15, b16, by simp (disch := omega) only [n_lit, nI_add, nI_1, n_cl, gck_in, gck_t, gck_T, ↓gnm_e, gbd_s, ↓reduceIte, n_leT, n_leF, n_ltT, n_ltF, n_eqT, n_eqF, Nat.add_zero, Nat.zero_add, z2, k1, k2 w hw], by simp (disch := omega) only [n_lit, nI_add, nI_1, n_cl, gck_in, gck_t, gck_T, ↓gnm_e, gbd_s, ↓reduceIte, n_leT, n_leF, n_ltT, n_ltF, n_eqT, n_eqF, Nat.add_zero, Nat.zero_add, z1, k3, k4 w hw]⟩
    · have hne := x_out hx2 (by decide)
      exact ⟨-nI 1001, gs, g0, g1, g2, g3, g5, a10, a11, a12, a13, a14, a15, a16, by simp (disch := omega) only [n_lit, nI_add, nI_1, n_cl, gck_in, gck_t, gck_T, ↓gnm_e, gbd_s, ↓reduceIte, n_leT, n_leF, n_ltT, n_ltF, n_eqT, n_eqF, Nat.add_zero, Nat.zero_add, z2, hne], by simp (disch := omega) only [n_lit, nI_add, nI_1, n_cl, gck_in, gck_t, gck_T, ↓gnm_e, gbd_s, ↓reduceIte, n_leT, n_leF, n_ltT, n_ltF, n_eqT, n_eqF, Nat.add_zero, Nat.zero_add, z1, hne]⟩
  · have z1 := isw_f hW h10 hx1
    have z2 := has_f hx1
    exact ⟨-nI 1001, gs, g0, g1, g2, g3, g5, a10, a11, a12, a13, a14, a15, a16, by rw [z2, gbd_s, ib0]; rfl, by rw [z1, gbd_s, ib0]; rfl⟩
end METH
