/-! PURE SIDE: year, years -/
section YEARS
variable {F : gF} {o : Nat → Int32} {A : Nat → Nat → Int32} {Cf : Nat → Option Nat} {h : Nat} {s : Nat → Int32} {W C y Hn R T : Nat}
theorem yp_v {py way w e : Nat} (hpy : py ≤ 99) (he : e ≤ 9999) (h21 : s (21 + w) = nI e) : ∃ e', e' ≤ 9999 ∧ yp s py way w = nI e' := by
  obtain ⟨g, g1, g2, g3⟩ := yg_v s way w
  have hm : py * g ≤ 99 * 5 := Nat.mul_le_mul hpy g2
  unfold yp
  rw [h21, g3, pk_mul, nI_add]
  by_cases z : e + py * g ≤ 9999
  · rw [if_pos (by rw [n_leT z (by omega)]; trivial)]; exact ⟨_, z, rfl⟩
  · rw [if_neg (by rw [n_leF (by omega) (by omega)]; exact fun z => z)]; exact ⟨9999, Nat.le_refl _, rfl⟩
theorem wv_year (hV : ∀ w, w < W → WV s C w) (h10 : W ≤ 10) (h57 : ∃ a, a ≤ 99 ∧ s 57 = nI a) (h58 : ∃ a, a ≤ 99 ∧ s 58 = nI a) {py way : Nat} (hpy : py ≤ 99) {t : Nat → Int32} (ht : YR s W y py way t) : ∀ w, w < W → WV t C w := fun w hw => by
  obtain ⟨a, b, d, e, c, z1, z2, z3, z4, z5, e1, e2, e3, e4, e5⟩ := hV w hw
  obtain ⟨a', a1', a2'⟩ := h57
  obtain ⟨b', b1', b2'⟩ := h58
  obtain ⟨e', e1', e2'⟩ := yp_v (way := way) hpy z4 e4
  obtain ⟨q1, q2, q3⟩ := ht.2.1 w (by omega)
  by_cases ho : yo s W y way w = true
  · rw [if_pos ⟨hw, ho⟩] at q1 q2 q3
    exact ⟨a', b', d, 0, c, a1', b1', z3, by omega, z5, q1.trans a2', q2.trans b2', (ht.2.2 _ (by omega)).trans e3, q3, (ht.2.2 _ (by omega)).trans e5⟩
  · rw [if_neg (fun z => ho z.2)] at q1 q2 q3
    rw [if_pos hw] at q3
    exact ⟨a, b, d, e', c, z1, z2, z3, e1', z5, q1.trans e1, q2.trans e2, (ht.2.2 _ (by omega)).trans e3, q3.trans e2', (ht.2.2 _ (by omega)).trans e5⟩
theorem iv_year (hI : IV s W C y) (h57 : ∃ a, a ≤ 99 ∧ s 57 = nI a) (h58 : ∃ a, a ≤ 99 ∧ s 58 = nI a) {py way : Nat} (hpy : py ≤ 99) {t : Nat → Int32} (ht : YR s W y py way t) (hy : y + 1 ≤ 120) : IV t W C (y + 1) := by
  obtain ⟨hW, h10, hC, h4, hy0, hy2, hV, hK⟩ := hI
  exact ⟨(ht.2.2 51 (by omega)).trans hW, h10, (ht.2.2 52 (by omega)).trans hC, h4, ht.1, hy, wv_year hV h10 h57 h58 hpy ht, fun c hc => cv_ag (by omega) (fun k h1 h2 => ht.2.2 k (by omega)) (hK c hc)⟩
theorem m_year (hS : SV s W C y Hn R T) (hR : WR F o A Cf h s) (hP : PLF F) (gs : Int32) (g0 g1 g2 g3 g5 : Nat → Int32) (a10 a11 a12 a13 a14 a15 : Nat → Int32) : ∃ v w5 w8 w9 w12 r t r', pX11_year F (o 0) (o 1) (o 6) (o 7) (A 10) (A 11) h Cf (o 5) (A 8) (A 9) (A 12) gs g0 g1 g2 g3 g5 = some (v, w5, w8, w9, w12, r) ∧ pX12_year s a10 a11 a12 a13 a14 a15 = some (v, t, r') ∧ SW F (gu o 5 w5) (gu (gu (gu A 8 w8) 9 w9) 12 w12) Cf h t := by
  have hI := hS.1
  obtain ⟨hW, h10, hC, h4, hy, hy2, hV, hK⟩ := id hI
  obtain ⟨e0, e1, -, -, -, e5⟩ := wr_o hS hR
  obtain ⟨-, -, -, -, -, -, e6, e7⟩ := hR.1
  have hH := wr_hr hR
  have hcf := wr_cfs hS hR
  obtain ⟨-, -, -, ⟨t1, t2, -⟩⟩ := hr_tl hH
  unfold pX11_year pX12_year
  rw [e0, e1, e5, e6, e7]
  by_cases h99 : y = 99
  · subst h99
    refine ⟨-nI 3, nI 99, A 8, A 9, A 12, (gs, g0, g1, g2, g3, g5), s, (a10, a11, a12, a13, a14, a15), by rw [if_neg (by decide)]; rfl, by simp (disch := omega) only [n_lit, nI_add, nI_1, n_cl, gck_in, gck_t, gck_T, ↓gnm_e, gbd_s, ↓reduceIte, n_leT, n_leF, n_ltT, n_ltF, n_eqT, n_eqF, Nat.add_zero, Nat.zero_add, hy], ?_⟩
    rw [← e5, gu_self, gu_self, gu_self, gu_self]
    exact ⟨⟨W, C, 99, Hn, R, T, hS⟩, hR⟩
  · have hy9 := hS.2.1
    obtain ⟨t, r', k1, k2⟩ := r_year hI hH (cfs_chs hcf) (sv_56 hS) (way := 0) (by omega) a10 a11 a12 a13 a14 a15
    obtain ⟨D8, D9, D12, r, k3, k4⟩ := c_year hI hH hP hcf (wr_wa hS hR) (A12 := A 12) (fun w hw => by
      obtain ⟨q1, q2, q3, q4, q5⟩ := hR.2.1 w hw
      exact ⟨q1, q2, q5⟩) (way := 0) (by omega) gs g0 g1 g2 g3 g5
    have k5 := k4 t k2
    refine ⟨nI (yt s W 0), nI (y + 1), D8, D9, D12, r, t, r', ?_, ?_, ⟨W, C, y + 1, Hn, R, T, ?_⟩, ?_⟩
    · rw [if_pos (by rw [n_lit, n_ltT (by omega) (by omega)]; trivial), show (0 : Int32) = nI 0 from rfl, k3, gbd_s]
    · simp (disch := omega) only [n_lit, nI_add, nI_1, n_cl, gck_in, gck_t, gck_T, ↓gnm_e, gbd_s, ↓reduceIte, n_leT, n_leF, n_ltT, n_ltF, n_eqT, n_eqF, Nat.add_zero, Nat.zero_add, hy, k1]
    · exact sv_work hS k2.1 (by omega) (fun k hk => k2.2.2 k (by omega)) (wv_year hV h10 hS.2.2.2.2.2.2.2.2.1 hS.2.2.2.2.2.2.2.2.2.1 t1 k2)
    · refine wr_work hS hR (fun k hk => k2.2.2 k (by omega)) ?_ (fun w hw => ?_) (by simp (disch := omega) only [gu_n]) (by simp (disch := omega) only [gu_n]) (by simp (disch := omega) only [gu_n]) (by simp (disch := omega) only [gu_n])
      · obtain ⟨q0, q1, q2, q3, q4, q5, q6, q7⟩ := hR.1
        unfold WO
        simp (disch := omega) only [gu_n, gu_s, k2.2.2]
        exact ⟨q0, q1, q2, q3, q4, k2.1.symm, q6, q7⟩
      · obtain ⟨q1, q2, q3, q4, q5⟩ := hR.2.1 w hw
        obtain ⟨p1, p2, p3⟩ := k5 w hw
        simp (disch := omega) only [gu_n, gu_s, k2.2.2]
        exact ⟨p1, p2, q3, q4, p3⟩
/-! years -/
theorem r_keeps2 : ∀ k n x : Nat, ∀ a3 : Nat → Int32, x + k = 51 → k < n → (∀ j, j < x → a3 j = s j) → ∃ b3, pX12_keeps_2 s n a3 (nI x) = some b3 ∧ ∀ j, j < 51 → b3 j = s j := by
  intro k
  induction k with
  | zero =>
    intro n x a3 e hn ha
    obtain ⟨n, rfl⟩ : ∃ j, n = j + 1 := ⟨n - 1, by omega⟩
    have e2 : x = 51 := by omega
    subst e2
    exact ⟨a3, by simp (disch := omega) only [pX12_keeps_2, n_lit, nI_add, nI_1, n_cl, gck_in, gck_t, gck_T, ↓gnm_e, gbd_s, ↓reduceIte, n_leT, n_leF, n_ltT, n_ltF, n_eqT, n_eqF, Nat.add_zero, Nat.zero_add], ha⟩
  | succ k ih =>
    intro n x a3 e hn ha
    obtain ⟨n, rfl⟩ : ∃ j, n = j + 1 := ⟨n - 1, by omega⟩
    obtain ⟨b3, k1, k2⟩ := ih n (x + 1) (upd a3 x (s x)) (by omega) (by omega) (fun j hj => by
      by_cases ej : j = x
      · rw [ej, pk_us]
      · rw [pk_un ej]; exact ha j (by omega))
    exact ⟨b3, by rw [← k1]; simp (disch := omega) only [pX12_keeps_2, n_lit, nI_add, nI_1, n_cl, gck_in, gck_t, gck_T, ↓gnm_e, gbd_s, ↓reduceIte, n_leT, n_leF, n_ltT, n_ltF, n_eqT, n_eqF, Nat.add_zero, Nat.zero_add], k2⟩
theorem r_back2 {a3 : Nat → Int32} : ∀ k n x : Nat, ∀ t : Nat → Int32, x + k = 51 → k < n → (∀ j, j < x → t j = a3 j) → ∃ b, pX12_goesBack_2 a3 n t (nI x) = some b ∧ (∀ j, j < 51 → b j = a3 j) ∧ ∀ j, 51 ≤ j → b j = t j := by
  intro k
  induction k with
  | zero =>
    intro n x t e hn ha
    obtain ⟨n, rfl⟩ : ∃ j, n = j + 1 := ⟨n - 1, by omega⟩
    have e2 : x = 51 := by omega
    subst e2
    exact ⟨t, by simp (disch := omega) only [pX12_goesBack_2, n_lit, nI_add, nI_1, n_cl, gck_in, gck_t, gck_T, ↓gnm_e, gbd_s, ↓reduceIte, n_leT, n_leF, n_ltT, n_ltF, n_eqT, n_eqF, Nat.add_zero, Nat.zero_add], ha, fun _ _ => rfl⟩
  | succ k ih =>
    intro n x t e hn ha
    obtain ⟨n, rfl⟩ : ∃ j, n = j + 1 := ⟨n - 1, by omega⟩
    obtain ⟨b, k1, k2, k3⟩ := ih n (x + 1) (upd t x (a3 x)) (by omega) (by omega) (fun j hj => by
      by_cases ej : j = x
      · rw [ej, pk_us]
      · rw [pk_un ej]; exact ha j (by omega))
    exact ⟨b, by rw [← k1]; simp (disch := omega) only [pX12_goesBack_2, n_lit, nI_add, nI_1, n_cl, gck_in, gck_t, gck_T, ↓gnm_e, gbd_s, ↓reduceIte, n_leT, n_leF, n_ltT, n_ltF, n_eqT, n_eqF, Nat.add_zero, Nat.zero_add], k2, fun j hj => by rw [k3 j hj, pk_un (by omega)]⟩
theorem r_back {a3 t : Nat → Int32} (h3 : ∀ j, j < 51 → a3 j = s j) (ht : ∀ j, 31 ≤ j → t j = s j) : pX12_goesBack a3 t = some s := by
  obtain ⟨b, k1, k2, k3⟩ := r_back2 (a3 := a3) 51 1000 0 t (by omega) (by omega) (fun j hj => absurd hj (Nat.not_lt_zero _))
  have e : b = s := by
    funext j
    by_cases z : j < 51
    · rw [k2 j z, h3 j z]
    · rw [k3 j (by omega), ht j (by omega)]
  rw [e] at k1
  unfold pX12_goesBack
  exact k1
theorem r_y91 {t : Nat → Int32} (hW : t 51 = nI W) (h10 : W ≤ 10) {a3 a10 a11 a12 a13 a14 a15 : Nat → Int32} {x3 x4 : Int32} : ∀ k n x : Nat, x + k = W → k < n → pX12_years_91 n t a3 a10 a11 a12 a13 a14 a15 x3 x4 (sm (al W) (fun w => t (1 + w)) x) (nI x) = pX12_years_123 t a3 a10 a11 a12 a13 a14 a15 x3 x4 (sm (al W) (fun w => t (1 + w)) W) := by
  intro k
  induction k with
  | zero =>
    intro n x e hn
    obtain ⟨n, rfl⟩ : ∃ j, n = j + 1 := ⟨n - 1, by omega⟩
    have e2 : x = W := by omega
    subst e2
    simp (disch := omega) only [pX12_years_91, n_lit, nI_add, nI_1, n_cl, gck_in, gck_t, gck_T, ↓gnm_e, gbd_s, ↓reduceIte, n_leT, n_leF, n_ltT, n_ltF, n_eqT, n_eqF, Nat.add_zero, Nat.zero_add, hW]
  | succ k ih =>
    intro n x e hn
    obtain ⟨n, rfl⟩ : ∃ j, n = j + 1 := ⟨n - 1, by omega⟩
    have z := ih n (x + 1) (by omega) (by omega)
    rw [sm_t (al_t.mpr (show x < W by omega))] at z
    simp (disch := omega) only [pX12_years_91, n_lit, nI_add, nI_1, n_cl, gck_in, gck_t, gck_T, ↓gnm_e, gbd_s, ↓reduceIte, n_leT, n_leF, n_ltT, n_ltF, n_eqT, n_eqF, Nat.add_zero, Nat.zero_add, hW, z]
theorem c_wt4 (h10 : W ≤ 10) {b8 g : Nat → Int32} (hb : ∀ w, w < W → b8 w = g w) : ∀ k n x : Nat, x + k = W → k < n → pX10_worthTogether_w1_4 (nI W) b8 n (sm (al W) g x) (nI x) = some (sm (al W) g W) := by
  intro k
  induction k with
  | zero =>
    intro n x e hn
    obtain ⟨n, rfl⟩ : ∃ j, n = j + 1 := ⟨n - 1, by omega⟩
    have e2 : x = W := by omega
    subst e2
    simp (disch := omega) only [pX10_worthTogether_w1_4, n_lit, nI_add, nI_1, n_cl, gck_in, gck_t, gck_T, ↓gnm_e, gbd_s, ↓reduceIte, n_leT, n_leF, n_ltT, n_ltF, n_eqT, n_eqF, Nat.add_zero, Nat.zero_add]
  | succ k ih =>
    intro n x e hn
    obtain ⟨n, rfl⟩ : ∃ j, n = j + 1 := ⟨n - 1, by omega⟩
    have z := ih n (x + 1) (by omega) (by omega)
    rw [sm_t (al_t.mpr (show x < W by omega))] at z
    simp (disch := omega) only [pX10_worthTogether_w1_4, n_lit, nI_add, nI_1, n_cl, gck_in, gck_t, gck_T, ↓gnm_e, gbd_s, ↓reduceIte, n_leT, n_leF, n_ltT, n_ltF, n_eqT, n_eqF, Nat.add_zero, Nat.zero_add, hb x (show x < W by omega), z]
/-- what years answers of the row then -/
def ya (t : Nat → Int32) (W : Nat) (x3 acc : Int32) : Int32 := if x3 = nI 0 then sm (al W) (fun w => t (1 + w)) W else if x3 = nI 1 then acc else t (21 + (x3 - nI 10).toNatClampNeg)
theorem j_years (hS : SV s W C y Hn R T) (hR : WR F o A Cf h s) (hP : PLF F) {way : Nat} (hw4 : way < 4) {N : Nat} (hN : N ≤ 20) {x3 : Int32} (hx3 : x3 = nI 0 ∨ x3 = nI 1 ∨ ∃ w, w < W ∧ x3 = nI (10 + w)) {a3 : Nat → Int32} (ha3 : ∀ j, j < 51 → a3 j = s j) {b10 b11 b14 b15 b16 b17 : Nat → Int32} {C2 : Nat → Option Nat} {p2 p3 p4 : Int32} (hb : ∀ w, w < 10 → b10 w = s (31 + w) ∧ b11 w = s (41 + w)) (hC2 : CFS F s C C2) : ∀ k n n' i : Nat, ∀ (t b8 b9 b12 : Nat → Int32) (y' acc : Nat) (gs : Int32) (g0 g1 g2 g3 g5 : Nat → Int32) (a10 a11 a12 a13 a14 a15 : Nat → Int32), i + k = N → k < n → k < n' → IV t W C y' → y' + k ≤ 120 → (∀ j, 31 ≤ j → t j = s j) → (∀ w, w < 10 → b8 w = t (1 + w) ∧ b9 w = t (11 + w) ∧ b12 w = t (21 + w)) → ∃ v r r', pX11_years_76 F (o 0) (o 1) (o 2) (o 3) (o 4) (o 5) (o 6) (o 7) (A 8) (A 9) (A 10) (A 11) (A 12) (A 14) (A 15) (A 16) (A 17) h Cf n (nI W) (nI C) p2 p3 p4 (nI y') (s 57) (s 58) b8 b9 b10 b11 b12 b14 b15 b16 b17 h C2 gs g0 g1 g2 g3 g5 (nI N) (nI way) x3 (nI acc) (nI i) = some (v, r) ∧ pX12_years_63 n' t a3 a10 a11 a12 a13 a14 a15 (nI N) (nI way) x3 (nI acc) (nI i) = some (v, s, r') := by
  have h57 := hS.2.2.2.2.2.2.2.2.1
  have h58 := hS.2.2.2.2.2.2.2.2.2.1
  have h10 := hS.1.2.1
  have h4 := hS.1.2.2.2.1
  intro k
  induction k with
  | zero =>
    intro n n' i t b8 b9 b12 y' acc gs g0 g1 g2 g3 g5 a10 a11 a12 a13 a14 a15 e hn hn' hI hy' hag hbb
    obtain ⟨n, rfl⟩ : ∃ j, n = j + 1 := ⟨n - 1, by omega⟩
    obtain ⟨n', rfl⟩ : ∃ j, n' = j + 1 := ⟨n' - 1, by omega⟩
    have e2 : i = N := by omega
    subst e2
    have hlt : (nI i : Int32) ≤ nI i := n_leI.mpr (Int.le_refl _)
    have k91 := r_y91 (t := t) (W := W) hI.1 h10 (a3 := a3) (a10 := a10) (a11 := a11) (a12 := a12) (a13 := a13) (a14 := a14) (a15 := a15) (x3 := x3) (x4 := nI acc) W 1000 0 (by omega) (by omega)
    have hbk := r_back (s := s) ha3 hag
    have hwt := c_wt4 (W := W) h10 (b8 := b8) (g := fun w => t (1 + w)) (fun w hw => (hbb w (by omega)).1) W 1000 0 (by omega) (by omega)
    rcases hx3 with z | z | ⟨w, hw, z⟩
    · subst z
      refine ⟨sm (al W) (fun w => t (1 + w)) W, (nI W, nI C, p2, p3, p4, nI y', s 57, s 58, b8, b9, b10, b11, b12, b14, b15, b16, b17, h, C2, gs, g0, g1, g2, g3, g5), (a3, a10, a11, a12, a13, a14, a15), ?_, ?_⟩
      · rw [pX11_years_76, if_pos hlt]
        unfold pX11_years_102 pX10_worthTogether_w1
        rw [if_neg (by decide), if_pos (show nI 0 = (0 : Int32) from rfl)]
        rw [show pX10_worthTogether_w1_4 (nI W) b8 1000 0 0 = some (sm (al W) (fun w => t (1 + w)) W) from hwt, gbd_s]
      · rw [pX12_years_63, if_pos hlt]
        refine Eq.trans k91 ?_
        unfold pX12_years_123
        rw [if_pos (show nI 0 = (0 : Int32) from rfl), hbk, gbd_s]
    · subst z
      refine ⟨nI acc, (nI W, nI C, p2, p3, p4, nI y', s 57, s 58, b8, b9, b10, b11, b12, b14, b15, b16, b17, h, C2, gs, g0, g1, g2, g3, g5), (a3, a10, a11, a12, a13, a14, a15), ?_, ?_⟩
      · rw [pX11_years_76, if_pos hlt]
        unfold pX11_years_102
        rw [if_pos (show nI 1 = (1 : Int32) from rfl)]
      · rw [pX12_years_63, if_pos hlt]
        refine Eq.trans k91 ?_
        unfold pX12_years_123
        rw [if_neg (by decide), if_pos (show nI 1 = (1 : Int32) from rfl), hbk, gbd_s]
    · subst z
      have n1 : ¬ nI (10 + w) = (1 : Int32) := by rw [n_lit, n_eq (by omega) (by omega)]; omega
      have n0 : ¬ nI (10 + w) = (0 : Int32) := by rw [n_lit, n_eq (by omega) (by omega)]; omega
      refine ⟨t (21 + w), (nI W, nI C, p2, p3, p4, nI y', s 57, s 58, b8, b9, b10, b11, b12, b14, b15, b16, b17, h, C2, gs, g0, g1, g2, g3, g5), (a3, a10, a11, a12, a13, a14, a15), ?_, ?_⟩
      · rw [pX11_years_76, if_pos hlt]
        unfold pX11_years_102
        rw [if_neg n1, if_neg n0, n_lit, n_sub (by omega), show 10 + w - 10 = w from by omega, gck_t (ginb_t (by omega) (by decide)), n_cl (by omega), (hbb w (by omega)).2.2]
      · rw [pX12_years_63, if_pos hlt]
        refine Eq.trans k91 ?_
        unfold pX12_years_123
        rw [if_neg n0, if_neg n1]
        simp (disch := omega) only [n_lit, nI_add, n_sub, gck_in, n_cl, gnm_e, hbk, gbd_s]
        rw [show 21 + (10 + w) - 10 = 21 + w from by omega]
  | succ k ih =>
    intro n n' i t b8 b9 b12 y' acc gs g0 g1 g2 g3 g5 a10 a11 a12 a13 a14 a15 e hn hn' hI hy' hag hbb
    obtain ⟨n, rfl⟩ : ∃ j, n = j + 1 := ⟨n - 1, by omega⟩
    obtain ⟨n', rfl⟩ : ∃ j, n' = j + 1 := ⟨n' - 1, by omega⟩
    have hnl : ¬ (nI N : Int32) ≤ nI i := by rw [n_leF (by omega) (by omega)]; exact fun z => z
    have hv : t 56 = -nI 1 ∨ ∃ H, H < 5 ∧ t 56 = nI H := by rw [hag 56 (by omega)]; exact sv_56 hS
    have hH : HR F h t := hr_ag (hag 56 (by omega)) (fun k hk => hag k (by omega)) (sv_56 hS) (wr_hr hR)
    have hcf : CFS F t C C2 := cfs_work h4 (fun k hk => hag k (by omega)) (fun _ _ => rfl) hC2
    have h57' : ∃ a, a ≤ 99 ∧ t 57 = nI a := by rw [hag 57 (by omega)]; exact h57
    have h58' : ∃ a, a ≤ 99 ∧ t 58 = nI a := by rw [hag 58 (by omega)]; exact h58
    obtain ⟨-, -, -, ⟨t1, t2, -⟩⟩ := hr_tl hH
    obtain ⟨t', r', k1, k2⟩ := r_year hI hH (cfs_chs hcf) hv hw4 a10 a11 a12 a13 a14 a15
    obtain ⟨D8, D9, D12, r, k3, k4⟩ := c_year hI hH hP hcf (A8 := b8) (A9 := b9) (A10 := b10) (A11 := b11) (A12 := b12) (fun w hw => by
      obtain ⟨q1, q2, q3⟩ := hbb w (by omega)
      obtain ⟨q4, q5⟩ := hb w (by omega)
      exact ⟨q1, q2, q4.trans (hag _ (by omega)).symm, q5.trans (hag _ (by omega)).symm⟩) hbb hw4 gs g0 g1 g2 g3 g5
    rw [hag 57 (by omega), hag 58 (by omega)] at k3
    obtain ⟨v, r1, r2, k5, k6⟩ := ih n n' (i + 1) t' D8 D9 D12 (y' + 1) (acc + yt t W way) r.1 r.2.1 r.2.2.1 r.2.2.2.1 r.2.2.2.2.1 r.2.2.2.2.2 r'.1 r'.2.1 r'.2.2.1 r'.2.2.2.1 r'.2.2.2.2.1 r'.2.2.2.2.2 (by omega) (by omega) (by omega) (iv_year hI h57' h58' t1 k2 (by omega)) (by omega) (fun j hj => (k2.2.2 j hj).trans (hag j hj)) (k4 t' k2)
    refine ⟨v, r1, r2, ?_, ?_⟩
    · rw [← k5, pX11_years_76, if_neg hnl, ev_X11_goYear_w1, k3, gbd_s, gnm_e, nI_add, nI_1]
    · rw [← k6, pX12_years_63, if_neg hnl, k1, gbd_s, gnm_e, nI_add, nI_1]
theorem m_years (hS : SV s W C y Hn R T) (hR : WR F o A Cf h s) (hP : PLF F) (p0 p1 p2 p3 p4 p5 p6 p7 : Int32) (b8 b9 b10 b11 b12 b14 b15 b16 b17 : Nat → Int32) (h1 : Nat) (C1 : Nat → Option Nat) (gs : Int32) (g0 g1 g2 g3 g5 : Nat → Int32) (a3 a10 a11 a12 a13 a14 a15 : Nat → Int32) (x1 x2 x3 : Int32) : ∃ v r r', pX11_years F (o 0) (o 1) (o 2) (o 3) (o 4) (o 5) (o 6) (o 7) (A 8) (A 9) (A 10) (A 11) (A 12) (A 14) (A 15) (A 16) (A 17) h Cf p0 p1 p2 p3 p4 p5 p6 p7 b8 b9 b10 b11 b12 b14 b15 b16 b17 h1 C1 gs g0 g1 g2 g3 g5 x1 x2 x3 = some (v, r) ∧ pX12_years s a3 a10 a11 a12 a13 a14 a15 x1 x2 x3 = some (v, s, r') := by
  have hI := hS.1
  obtain ⟨hW, h10, hC, h4, hy, hy2, hV, hK⟩ := id hI
  obtain ⟨e0, e1, -, -, -, e5⟩ := wr_o hS hR
  obtain ⟨-, -, -, -, -, -, e6, e7⟩ := hR.1
  have core : ∀ way, way < 4 → (x3 = nI 0 ∨ x3 = nI 1 ∨ ∃ w, w < W ∧ x3 = nI (10 + w)) → ∃ v r r', pX11_years_46 F (o 0) (o 1) (o 2) (o 3) (o 4) (o 5) (o 6) (o 7) (A 8) (A 9) (A 10) (A 11) (A 12) (A 14) (A 15) (A 16) (A 17) h Cf p0 p1 p2 p3 p4 p5 p6 p7 b8 b9 b10 b11 b12 b14 b15 b16 b17 h1 C1 gs g0 g1 g2 g3 g5 x1 (nI way) x3 = some (v, r) ∧ pX12_years_39 s a3 a10 a11 a12 a13 a14 a15 x1 (nI way) x3 = some (v, s, r') := fun way hw4 hx3 => by
    unfold pX11_years_46 pX12_years_39
    rcases x_in x1 (n := 20) (by decide) with ⟨N, hN, rfl⟩ | hx1
    · have z1 : pX12_in (nI N) 0 20 = some (nI 1) := in_nT (a := 0) (n := 20) (by omega) hN (by decide)
      have z2 : pX11_isWithin (nI N) 20 = some (nI 1) := wi_nT hN (by decide)
      obtain ⟨b3, k1, k2⟩ := r_keeps2 (s := s) 51 1000 0 a3 (by omega) (by omega) (fun j hj => absurd hj (Nat.not_lt_zero _))
      obtain ⟨C2, k3, k4⟩ := c_bec hS hR p0 p1 p2 p3 p4 p5 p6 p7 b8 b9 b10 b11 b12 b14 b15 b16 b17 h1 C1
      obtain ⟨v, r, r', k5, k6⟩ := j_years hS hR hP hw4 hN hx3 k2 (b10 := va_cpy (A 10) b10 0 0 10) (b11 := va_cpy (A 11) b11 0 0 10) (b14 := va_cpy (A 14) b14 0 0 20) (b15 := va_cpy (A 15) b15 0 0 20) (b16 := va_cpy (A 16) b16 0 0 20) (b17 := va_cpy (A 17) b17 0 0 100) (C2 := C2) (p2 := o 2) (p3 := o 3) (p4 := o 4) (fun w hw => by
        obtain ⟨p8, p9, p10, p11, p12⟩ := hR.2.1 w hw
        rw [cpy_at hw, cpy_at hw]; exact ⟨p10, p11⟩) (cfs_work h4 (fun _ _ => rfl) k4 (wr_cfs hS hR)) N 1000 1000 0 s (va_cpy (A 8) b8 0 0 10) (va_cpy (A 9) b9 0 0 10) (va_cpy (A 12) b12 0 0 10) y 0 gs g0 g1 g2 g3 g5 a10 a11 a12 a13 a14 a15 (by omega) (by omega) (by omega) hI (by have := hS.2.1; omega) (fun _ _ => rfl) (fun w hw => by
        obtain ⟨p8, p9, p10, p11, p12⟩ := hR.2.1 w hw
        rw [cpy_at hw, cpy_at hw, cpy_at hw]; exact ⟨p8, p9, p12⟩)
      refine ⟨v, r, r', ?_, ?_⟩
      · rw [z2, gbd_s, ib1, k3, gbd_s, e0, e1, e5, e6, e7]
        rw [e0, e1, e5, e6, e7] at k5
        exact k5
      · rw [z1, gbd_s, ib1]
        unfold pX12_keeps
        rw [show pX12_keeps_2 s 1000 a3 0 = some b3 from k1, gbd_s]
        exact k6
    · have z1 : pX12_in x1 0 20 = some (nI 0) := in_f hx1
      have z2 : pX11_isWithin x1 20 = some (nI 0) := wi_f hx1
      exact ⟨-1002, _, _, by rw [z2, gbd_s, ib0], by rw [z1, gbd_s, ib0]⟩
  unfold pX11_years pX12_years
  rcases x_in x2 (n := 3) (by decide) with ⟨way, hway, rfl⟩ | hx2
  · have z1 : pX12_in (nI way) 0 3 = some (nI 1) := in_nT (a := 0) (n := 3) (by omega) hway (by decide)
    have s1 : ∀ {α : Type} (p q r : α), (if nI way < 0 then p else if nI way ≤ 3 then q else r) = q := fun p q r => by
      rw [if_neg (by rw [n_lit, n_ltF (by omega) (by omega)]; exact fun z => z), if_pos (by rw [n_lit, n_leT hway (by omega)]; trivial)]
    rw [s1, z1, gbd_s, ib1]
    rcases x_in x3 (n := 1) (by decide) with ⟨j, hj, rfl⟩ | hx3
    · have z2 : pX12_in (nI j) 0 1 = some (nI 1) := in_nT (a := 0) (n := 1) (by omega) hj (by decide)
      rw [z2, gbd_s, ib1, if_neg (show ¬ nI j < 0 by rw [n_lit, n_ltF (by omega) (by omega)]; exact fun z => z), if_pos (show nI j ≤ 1 by rw [n_lit, n_leT hj (by omega)]; trivial)]
      exact core way (by omega) (by rcases (show j = 0 ∨ j = 1 by omega) with e | e <;> subst e <;> simp)
    · have z2 : pX12_in x3 0 1 = some (nI 0) := in_f hx3
      rw [z2, gbd_s, ib0]
      by_cases n0 : x3 < 0
      · have n10 : x3 < 10 := by
          rw [n_ltI] at n0 ⊢
          rw [show ((10 : Int32).toInt) = 10 from by decide]
          rw [show ((0 : Int32).toInt) = 0 from by decide] at n0
          omega
        rw [if_pos n0, if_pos n10]
        exact ⟨-1001, _, _, rfl, rfl⟩
      · rw [if_neg n0, if_neg (show ¬ x3 ≤ 1 from n_nle.mpr (hx3.resolve_left n0))]
        by_cases n10 : x3 < 10
        · rw [if_pos n10, if_pos n10]
          exact ⟨-1001, _, _, rfl, rfl⟩
        · rw [if_neg n10, if_neg n10]
          obtain ⟨j, j1, j2⟩ := nI_of (x := x3) n0
          subst j2
          have hj10 : 10 ≤ j := by
            rw [n_lit, n_lt (by omega) (by omega)] at n10; omega
          rw [n_lit, n_sub hj10, e0]
          rcases x_lt (nI (j - 10)) (n := W) (by omega) with ⟨w, hw, hwe⟩ | hx
          · rw [n_eq (by omega) (by omega)] at hwe
            have z3 := isw_t hW h10 hw
            have z4 := c_has h10 hw
            rw [hwe, z3, gbd_s, ib1, z4, gbd_s, ib1, ← e0]
            exact core way (by omega) (Or.inr (Or.inr ⟨w, hw, congrArg nI (by omega)⟩))
          · have z3 := isw_f hW h10 hx
            have z4 := has_f hx
            rw [z3, gbd_s, ib0, z4, gbd_s, ib0]
            exact ⟨-1001, _, _, rfl, rfl⟩
  · have z1 : pX12_in x2 0 3 = some (nI 0) := in_f hx2
    have s1 : ∀ {α : Type} (p q : α), (if x2 < 0 then p else if x2 ≤ 3 then q else p) = p := fun p q => by
      by_cases w0 : x2 < 0
      · rw [if_pos w0]
      · rw [if_neg w0, if_neg (show ¬ x2 ≤ 3 from n_nle.mpr (hx2.resolve_left w0))]
    rw [s1, z1, gbd_s, ib0]
    exact ⟨-1001, _, _, rfl, rfl⟩
end YEARS
