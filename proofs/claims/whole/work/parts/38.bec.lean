/-! PURE SIDE: a world becomes another; worker -/
section BEC
variable {F : gF} {o : Nat → Int32} {A : Nat → Nat → Int32} {Cf : Nat → Option Nat} {h : Nat} {s : Nat → Int32} {W C y Hn R T : Nat}
/-- two rows that agree where it matters -/
theorem hr_ext {t : Nat → Int32} (hg : ∀ k, k < 952 → t k = s k) (hv : s 56 = -nI 1 ∨ ∃ H, H < 5 ∧ s 56 = nI H) (hH : HR F h s) : HR F h t := by
  have h56 := hg 56 (by omega)
  have ht : ∀ k, 232 ≤ k → k < 900 → ∀ d, pX12_tellsOf t (nI k) d = pX12_tellsOf s (nI k) d := fun k hk hk2 d => by
    unfold pX12_tellsOf
    rcases hv with e | ⟨H, hH, e⟩
    · simp (disch := omega) only [n_lit, nI_add, nI_1, n_cl, gck_in, gck_t, gck_T, ↓gnm_e, gbd_s, ↓reduceIte, n_leT, n_leF, n_ltT, n_ltF, n_eqT, n_eqF, Nat.add_zero, Nat.zero_add, h56, e]
    · simp (disch := omega) only [n_lit, nI_add, nI_1, n_cl, gck_in, gck_t, gck_T, ↓gnm_e, gbd_s, ↓reduceIte, n_leT, n_leF, n_ltT, n_ltF, n_eqT, n_eqF, Nat.add_zero, Nat.zero_add, h56, e, z_peq, hg]
  have e0 : pX12_told t 0 = pX12_told s 0 := by
    unfold pX12_told; rw [if_pos rfl, if_pos rfl, n_lit, ht 232 (by decide) (by decide)]
  have e1 : pX12_told t 1 = pX12_told s 1 := by
    unfold pX12_told; rw [if_neg (by decide), if_pos rfl, if_neg (by decide), if_pos rfl, n_lit, ht 237 (by decide) (by decide)]
  have e2 : pX12_told t 2 = pX12_told s 2 := by
    unfold pX12_told; rw [if_neg (by decide), if_neg (by decide), if_pos rfl, if_neg (by decide), if_neg (by decide), if_pos rfl, n_lit, ht 242 (by decide) (by decide)]
  have e3 : pX12_tellsOf t 247 0 = pX12_tellsOf s 247 0 := ht 247 (by decide) (by decide) 0
  obtain ⟨q0, q1, q2, q3, fr, N, q4, q5, q6⟩ := hH
  refine ⟨q0, by rw [e0]; exact q1, by rw [e1]; exact q2, by rw [e2]; exact q3, fr, N, by rw [e3]; exact q4, by rw [h56]; exact q5, ?_⟩
  obtain ⟨p1, p2, p3, p4, p5, D, p6, p7, p8⟩ := q6
  refine ⟨p1, p2, p3, p4, p5, D, p6, p7, fun i hi => ?_⟩
  rw [hg (fr + i) (by omega)]
  exact p8 i hi
theorem sv_ext {t : Nat → Int32} (hag : ∀ k, k < 952 → t k = s k) (hS : SV s W C y Hn R T) : SV t W C y Hn R T := by
  obtain ⟨⟨hW, h10, hC, h4, hy0, hy2, hV0, hK⟩, hy9, s53, h5, s54, h20, s55, h100, n1, n2, hB, hT, h56⟩ := hS
  refine ⟨⟨(hag 51 (by omega)).trans hW, h10, (hag 52 (by omega)).trans hC, h4, (hag 0 (by omega)).trans hy0, hy2, fun w hw => wv_ag (by omega) (fun k hk => hag k (by omega)) (Nat.le_refl _) (hV0 w hw), fun c hc => cv_ag (by omega) (fun k h1 h2 => hag k (by omega)) (hK c hc)⟩, hy9, (hag 53 (by omega)).trans s53, h5, (hag 54 (by omega)).trans s54, h20, (hag 55 (by omega)).trans s55, h100, ?_, ?_, fun r hr => rv_ag (fun k hk => hag k (by omega)) (Nat.le_refl _) (Nat.le_refl _) (hB r hr), fun j hj => ?_, (hag 56 (by omega)).trans h56⟩
  · obtain ⟨a, a1, a2⟩ := n1; exact ⟨a, a1, (hag _ (by omega)).trans a2⟩
  · obtain ⟨a, a1, a2⟩ := n2; exact ⟨a, a1, (hag _ (by omega)).trans a2⟩
  · obtain ⟨a, a1, a2⟩ := hT j hj; exact ⟨a, a1, (hag _ (by omega)).trans a2⟩
theorem wr_ext {t : Nat → Int32} (hag : ∀ k, k < 952 → t k = s k) (hS : SV s W C y Hn R T) (hR : WR F o A Cf h s) : WR F o A Cf h t := by
  obtain ⟨⟨e0, e1, e2, e3, e4, e5, e6, e7⟩, r2, r3, r4, r5, r6, r7⟩ := hR
  refine ⟨?_, fun w hw => ?_, fun r hr => ?_, fun j hj => ?_, fun c hc => ?_, r6, hr_ext hag (sv_56 hS) r7⟩
  · unfold WO
    simp (disch := omega) only [hag]
    exact ⟨e0, e1, e2, e3, e4, e5, e6, e7⟩
  · simp (disch := omega) only [hag]; exact r2 w hw
  · simp (disch := omega) only [hag]; exact r3 r hr
  · simp (disch := omega) only [hag]; exact r4 j hj
  · rw [hag 52 (by omega)] at hc
    obtain ⟨b, b1, b2⟩ := r5 c hc
    have : nn (s 52) ≤ 4 := by rw [sv_nC hS]; exact hS.1.2.2.2.1
    exact ⟨b, b1, ch_ag (by omega) (fun k h1 h2 => hag k (by omega)) b2⟩
/-- the world whose parts are these -/
theorem wr_cong {o' : Nat → Int32} {A' : Nat → Nat → Int32} {C' : Nat → Option Nat} (hR : WR F o A Cf h s) (hS : SV s W C y Hn R T) (ho : ∀ k, k < 8 → o' k = o k) (h10 : ∀ k, (k = 8 ∨ k = 9 ∨ k = 10 ∨ k = 11 ∨ k = 12) → ∀ w, w < 10 → A' k w = A k w) (h20 : ∀ k, (k = 14 ∨ k = 15 ∨ k = 16) → ∀ w, w < 20 → A' k w = A k w) (h100 : ∀ w, w < 100 → A' 17 w = A 17 w) (hC : ∀ c, c < 4 → C' c = Cf c) : WR F o' A' C' h s := by
  obtain ⟨⟨e0, e1, e2, e3, e4, e5, e6, e7⟩, r2, r3, r4, r5, r6, r7⟩ := hR
  have h4 : nn (s 52) ≤ 4 := by rw [sv_nC hS]; exact hS.1.2.2.2.1
  refine ⟨⟨(ho 0 (by omega)).trans e0, (ho 1 (by omega)).trans e1, (ho 2 (by omega)).trans e2, (ho 3 (by omega)).trans e3, (ho 4 (by omega)).trans e4, (ho 5 (by omega)).trans e5, (ho 6 (by omega)).trans e6, (ho 7 (by omega)).trans e7⟩, fun w hw => ?_, fun r hr => ?_, fun j hj => (h100 j hj).trans (r4 j hj), fun c hc => ?_, fun c hc => by rw [hC c hc]; exact r6 c hc, r7⟩
  · obtain ⟨p8, p9, p10, p11, p12⟩ := r2 w hw
    exact ⟨(h10 8 (by omega) w hw).trans p8, (h10 9 (by omega) w hw).trans p9, (h10 10 (by omega) w hw).trans p10, (h10 11 (by omega) w hw).trans p11, (h10 12 (by omega) w hw).trans p12⟩
  · obtain ⟨p8, p9, p10⟩ := r3 r hr
    exact ⟨(h20 14 (by omega) r hr).trans p8, (h20 15 (by omega) r hr).trans p9, (h20 16 (by omega) r hr).trans p10⟩
  · obtain ⟨b, b1, b2⟩ := r5 c hc
    exact ⟨b, (hC c (by omega)).trans b1, b2⟩
theorem fit_127 : ∀ t, t < 128 → fits .char (.int (nI t)) = true := by decide
theorem wr_fit (hS : SV s W C y Hn R T) (hR : WR F o A Cf h s) : gfitC (A 17) 100 = true := by
  unfold gfitC
  rw [List.all_eq_true]
  intro j hj
  have hj2 : j < 100 := by
    have := List.mem_range.mp hj
    have e : (100 : Int32).toNatClampNeg = 100 := by decide
    omega
  obtain ⟨t, t1, t2⟩ := hS.2.2.2.2.2.2.2.2.2.2.2.1 j hj2
  rw [hR.2.2.2.1 j hj2, t2]
  exact fit_127 t (by omega)
theorem c_bec9 {Cw : Nat → Option Nat} (hq : ∀ c, c < 4 → gqok F (Cw c) = true) {p0 p1 p2 p3 p4 p5 p6 p7 : Int32} {b8 b9 b10 b11 b12 b14 b15 b16 b17 : Nat → Int32} {h1 : Nat} {C1 : Nat → Option Nat} {q0 q1 q2 q3 q4 q5 q6 q7 : Int32} {d8 d9 d10 d11 d12 d14 d15 d16 d17 : Nat → Int32} {hh : Nat} : ∀ k n c : Nat, ∀ C1 : Nat → Option Nat, c + k = 4 → k < n → (∀ j, j < c → C1 j = Cw j) → ∃ C2, pX10_become_w1_w0_209 F q0 q1 q2 q3 q4 q5 q6 q7 d8 d9 d10 d11 d12 d14 d15 d16 d17 hh Cw n p0 p1 p2 p3 p4 p5 p6 p7 b8 b9 b10 b11 b12 b14 b15 b16 b17 h1 C1 (nI c) = some (p0, p1, p2, p3, p4, p5, p6, p7, b8, b9, b10, b11, b12, b14, b15, b16, b17, h1, C2) ∧ ∀ j, j < 4 → C2 j = Cw j := by
  intro k
  induction k with
  | zero =>
    intro n c C1 e hn hc
    obtain ⟨n, rfl⟩ : ∃ j, n = j + 1 := ⟨n - 1, by omega⟩
    have e2 : c = 4 := by omega
    subst e2
    exact ⟨C1, by simp (disch := omega) only [pX10_become_w1_w0_209, n_lit, nI_add, nI_1, n_cl, gck_in, gck_t, gck_T, ↓gnm_e, gbd_s, ↓reduceIte, n_leT, n_leF, n_ltT, n_ltF, n_eqT, n_eqF, Nat.add_zero, Nat.zero_add], hc⟩
  | succ k ih =>
    intro n c C1 e hn hc
    obtain ⟨n, rfl⟩ : ∃ j, n = j + 1 := ⟨n - 1, by omega⟩
    obtain ⟨C2, k1, k2⟩ := ih n (c + 1) (va_up C1 c (Cw c)) (by omega) (by omega) (fun j hj => by
      unfold va_up
      by_cases ej : j = c
      · rw [if_pos ej, ej]
      · rw [if_neg ej]; exact hc j (by omega))
    refine ⟨C2, ?_, k2⟩
    rw [← k1]
    have hqc := hq c (by omega)
    simp (disch := omega) only [pX10_become_w1_w0_209, n_lit, nI_add, nI_1, n_cl, gck_in, gck_t, gck_T, ↓gnm_e, gbd_s, ↓reduceIte, n_leT, n_leF, n_ltT, n_ltF, n_eqT, n_eqF, Nat.add_zero, Nat.zero_add, hqc]
theorem c_bec (hS : SV s W C y Hn R T) (hR : WR F o A Cf h s) (p0 p1 p2 p3 p4 p5 p6 p7 : Int32) (b8 b9 b10 b11 b12 b14 b15 b16 b17 : Nat → Int32) (h1 : Nat) (C1 : Nat → Option Nat) : ∃ C2, pX10_become_w1_w0 F (o 0) (o 1) (o 2) (o 3) (o 4) (o 5) (o 6) (o 7) (A 8) (A 9) (A 10) (A 11) (A 12) (A 14) (A 15) (A 16) (A 17) h Cf p0 p1 p2 p3 p4 p5 p6 p7 b8 b9 b10 b11 b12 b14 b15 b16 b17 h1 C1 = some (o 0, o 1, o 2, o 3, o 4, o 5, o 6, o 7, va_cpy (A 8) b8 0 0 10, va_cpy (A 9) b9 0 0 10, va_cpy (A 10) b10 0 0 10, va_cpy (A 11) b11 0 0 10, va_cpy (A 12) b12 0 0 10, va_cpy (A 14) b14 0 0 20, va_cpy (A 15) b15 0 0 20, va_cpy (A 16) b16 0 0 20, va_cpy (A 17) b17 0 0 100, h, C2) ∧ ∀ j, j < 4 → C2 j = Cf j := by
  unfold pX10_become_w1_w0
  have hfit := wr_fit hS hR
  obtain ⟨C2, k1, k2⟩ := c_bec9 (F := F) (Cw := Cf) (C1 := Cf) hR.2.2.2.2.2.1 (p0 := o 0) (p1 := o 1) (p2 := o 2) (p3 := o 3) (p4 := o 4) (p5 := o 5) (p6 := o 6) (p7 := o 7) (q0 := o 0) (q1 := o 1) (q2 := o 2) (q3 := o 3) (q4 := o 4) (q5 := o 5) (q6 := o 6) (q7 := o 7) (d8 := A 8) (d9 := A 9) (d10 := A 10) (d11 := A 11) (d12 := A 12) (d14 := A 14) (d15 := A 15) (d16 := A 16) (d17 := A 17) (hh := h) (h1 := h) (b8 := va_cpy (A 8) b8 0 0 10) (b9 := va_cpy (A 9) b9 0 0 10) (b10 := va_cpy (A 10) b10 0 0 10) (b11 := va_cpy (A 11) b11 0 0 10) (b12 := va_cpy (A 12) b12 0 0 10) (b14 := va_cpy (A 14) b14 0 0 20) (b15 := va_cpy (A 15) b15 0 0 20) (b16 := va_cpy (A 16) b16 0 0 20) (b17 := va_cpy (A 17) b17 0 0 100) 4 1000 0 C1 (by omega) (by omega) (fun j hj => absurd hj (Nat.not_lt_zero _))
  refine ⟨C2, ?_, k2⟩
  simp only [gnm_e]
  rw [gck_t hfit]
  exact k1
theorem cpy_at {f g : Nat → Int32} {n w : Nat} (hw : w < n) : va_cpy f g 0 0 n w = f w := by
  rw [pk_cpy_in (by omega) (by omega)]
  simp only [Nat.zero_add, Nat.sub_zero]
/-! the image -/
theorem r_im2 {a1 : Nat → Int32} {o4 : Int32} : ∀ k n x : Nat, ∀ a2 : Nat → Int32, x + k = 952 → k < n → (∀ j, j < x → a2 j = a1 j) → ∃ b2, pX12_image_2 a1 n a2 o4 (nI x) = some (a1 51, b2, 1) ∧ ∀ j, j < 952 → b2 j = a1 j := by
  intro k
  induction k with
  | zero =>
    intro n x a2 e hn hc
    obtain ⟨n, rfl⟩ : ∃ j, n = j + 1 := ⟨n - 1, by omega⟩
    have e2 : x = 952 := by omega
    subst e2
    exact ⟨a2, by simp (disch := omega) only [pX12_image_2, n_lit, nI_add, nI_1, n_cl, gck_in, gck_t, gck_T, ↓gnm_e, gbd_s, ↓reduceIte, n_leT, n_leF, n_ltT, n_ltF, n_eqT, n_eqF, Nat.add_zero, Nat.zero_add], hc⟩
  | succ k ih =>
    intro n x a2 e hn hc
    obtain ⟨n, rfl⟩ : ∃ j, n = j + 1 := ⟨n - 1, by omega⟩
    obtain ⟨b2, k1, k2⟩ := ih n (x + 1) (upd a2 x (a1 x)) (by omega) (by omega) (fun j hj => by
      by_cases ej : j = x
      · rw [ej, pk_us]
      · rw [pk_un ej]; exact hc j (by omega))
    refine ⟨b2, ?_, k2⟩
    rw [← k1]
    simp (disch := omega) only [pX12_image_2, n_lit, nI_add, nI_1, n_cl, gck_in, gck_t, gck_T, ↓gnm_e, gbd_s, ↓reduceIte, n_leT, n_leF, n_ltT, n_ltF, n_eqT, n_eqF, Nat.add_zero, Nat.zero_add]
theorem r_un12 {a2 : Nat → Int32} {o4 : Int32} : ∀ k n x : Nat, ∀ a1 : Nat → Int32, x + k = 952 → k < n → (∀ j, j < x → a1 j = a2 j) → ∃ b1, pX12_undo_12 a2 o4 n a1 (nI x) = some (b1 51, b1) ∧ ∀ j, j < 952 → b1 j = a2 j := by
  intro k
  induction k with
  | zero =>
    intro n x a1 e hn hc
    obtain ⟨n, rfl⟩ : ∃ j, n = j + 1 := ⟨n - 1, by omega⟩
    have e2 : x = 952 := by omega
    subst e2
    exact ⟨a1, by simp (disch := omega) only [pX12_undo_12, n_lit, nI_add, nI_1, n_cl, gck_in, gck_t, gck_T, ↓gnm_e, gbd_s, ↓reduceIte, n_leT, n_leF, n_ltT, n_ltF, n_eqT, n_eqF, Nat.add_zero, Nat.zero_add], hc⟩
  | succ k ih =>
    intro n x a1 e hn hc
    obtain ⟨n, rfl⟩ : ∃ j, n = j + 1 := ⟨n - 1, by omega⟩
    obtain ⟨b1, k1, k2⟩ := ih n (x + 1) (upd a1 x (a2 x)) (by omega) (by omega) (fun j hj => by
      by_cases ej : j = x
      · rw [ej, pk_us]
      · rw [pk_un ej]; exact hc j (by omega))
    refine ⟨b1, ?_, k2⟩
    rw [← k1]
    simp (disch := omega) only [pX12_undo_12, n_lit, nI_add, nI_1, n_cl, gck_in, gck_t, gck_T, ↓gnm_e, gbd_s, ↓reduceIte, n_leT, n_leF, n_ltT, n_ltF, n_eqT, n_eqF, Nat.add_zero, Nat.zero_add]
theorem m_image (hS : SV s W C y Hn R T) (hR : WR F o A Cf h s) (o2 : Nat → Int32) (A2 : Nat → Nat → Int32) (h2 : Nat) (C2 : Nat → Option Nat) (hi0 : Int32) (a2 : Nat → Int32) (o4 : Int32) : ∃ v r b2, pX11_image F (o 0) (o 1) (o 2) (o 3) (o 4) (o 5) (o 6) (o 7) (A 8) (A 9) (A 10) (A 11) (A 12) (A 14) (A 15) (A 16) (A 17) h Cf (o2 0) (o2 1) (o2 2) (o2 3) (o2 4) (o2 5) (o2 6) (o2 7) (A2 8) (A2 9) (A2 10) (A2 11) (A2 12) (A2 14) (A2 15) (A2 16) (A2 17) h2 C2 hi0 = some (v, r) ∧ pX12_image s a2 o4 = some (v, b2, 1) ∧ r.2.2.2.2.2.2.2.2.2.2.2.2.2.2.2.2.2.2.2 = 1 ∧ SW F (gu (gu (gu (gu (gu (gu (gu (gu o2 0 r.1) 1 r.2.1) 2 r.2.2.1) 3 r.2.2.2.1) 4 r.2.2.2.2.1) 5 r.2.2.2.2.2.1) 6 r.2.2.2.2.2.2.1) 7 r.2.2.2.2.2.2.2.1) (gu (gu (gu (gu (gu (gu (gu (gu (gu A2 8 r.2.2.2.2.2.2.2.2.1) 9 r.2.2.2.2.2.2.2.2.2.1) 10 r.2.2.2.2.2.2.2.2.2.2.1) 11 r.2.2.2.2.2.2.2.2.2.2.2.1) 12 r.2.2.2.2.2.2.2.2.2.2.2.2.1) 14 r.2.2.2.2.2.2.2.2.2.2.2.2.2.1) 15 r.2.2.2.2.2.2.2.2.2.2.2.2.2.2.1) 16 r.2.2.2.2.2.2.2.2.2.2.2.2.2.2.2.1) 17 r.2.2.2.2.2.2.2.2.2.2.2.2.2.2.2.2.1) r.2.2.2.2.2.2.2.2.2.2.2.2.2.2.2.2.2.2.1 r.2.2.2.2.2.2.2.2.2.2.2.2.2.2.2.2.2.1 b2 := by
  obtain ⟨C3, k1, k2⟩ := c_bec hS hR (o2 0) (o2 1) (o2 2) (o2 3) (o2 4) (o2 5) (o2 6) (o2 7) (A2 8) (A2 9) (A2 10) (A2 11) (A2 12) (A2 14) (A2 15) (A2 16) (A2 17) h2 C2
  obtain ⟨b2, k3, k4⟩ := r_im2 (a1 := s) (o4 := o4) 952 1000 0 a2 (by omega) (by omega) (fun j hj => absurd hj (Nat.not_lt_zero _))
  have e : pX11_image F (o 0) (o 1) (o 2) (o 3) (o 4) (o 5) (o 6) (o 7) (A 8) (A 9) (A 10) (A 11) (A 12) (A 14) (A 15) (A 16) (A 17) h Cf (o2 0) (o2 1) (o2 2) (o2 3) (o2 4) (o2 5) (o2 6) (o2 7) (A2 8) (A2 9) (A2 10) (A2 11) (A2 12) (A2 14) (A2 15) (A2 16) (A2 17) h2 C2 hi0 = some (s 51, o 0, o 1, o 2, o 3, o 4, o 5, o 6, o 7, va_cpy (A 8) (A2 8) 0 0 10, va_cpy (A 9) (A2 9) 0 0 10, va_cpy (A 10) (A2 10) 0 0 10, va_cpy (A 11) (A2 11) 0 0 10, va_cpy (A 12) (A2 12) 0 0 10, va_cpy (A 14) (A2 14) 0 0 20, va_cpy (A 15) (A2 15) 0 0 20, va_cpy (A 16) (A2 16) 0 0 20, va_cpy (A 17) (A2 17) 0 0 100, h, C3, 1) := by
    unfold pX11_image
    rw [ev_X10_become_w2_w0, k1, gbd_s, hR.1.1]
  refine ⟨s 51, _, b2, e, by unfold pX12_image; exact k3, rfl, ⟨W, C, y, Hn, R, T, sv_ext k4 hS⟩, ?_⟩
  refine wr_ext k4 hS (wr_cong hR hS (fun k hk => ?_) (fun k hk w hw => ?_) (fun k hk w hw => ?_) (fun w hw => ?_) k2)
  · rcases (show k = 0 ∨ k = 1 ∨ k = 2 ∨ k = 3 ∨ k = 4 ∨ k = 5 ∨ k = 6 ∨ k = 7 by omega) with e | e | e | e | e | e | e | e <;> subst e <;> simp (disch := omega) only [gu_n, gu_s]
  · rcases hk with e | e | e | e | e <;> subst e <;> simp (disch := omega) only [gu_n, gu_s, cpy_at]
  · rcases hk with e | e | e <;> subst e <;> simp (disch := omega) only [gu_n, gu_s, cpy_at]
  · simp (disch := omega) only [gu_s, cpy_at]
theorem m_undo {t : Nat → Int32} {o2 : Nat → Int32} {A2 : Nat → Nat → Int32} {h2 : Nat} {C2 : Nat → Option Nat} {hi0 : Int32} {a2 : Nat → Int32} (h01 : hi0 = 0 ∨ hi0 = 1) (hsw : hi0 = 1 → SW F o2 A2 C2 h2 a2) : ∃ v r t, pX11_undo F (o2 0) (o2 1) (o2 2) (o2 3) (o2 4) (o2 5) (o2 6) (o2 7) (A2 8) (A2 9) (A2 10) (A2 11) (A2 12) (A2 14) (A2 15) (A2 16) (A2 17) h2 C2 hi0 (o 0) (o 1) (o 2) (o 3) (o 4) (o 5) (o 6) (o 7) (A 8) (A 9) (A 10) (A 11) (A 12) (A 14) (A 15) (A 16) (A 17) h Cf = some (v, r) ∧ pX12_undo a2 hi0 s = some (v, t) ∧ (SW F o A Cf h s → SW F (gu (gu (gu (gu (gu (gu (gu (gu o 0 r.1) 1 r.2.1) 2 r.2.2.1) 3 r.2.2.2.1) 4 r.2.2.2.2.1) 5 r.2.2.2.2.2.1) 6 r.2.2.2.2.2.2.1) 7 r.2.2.2.2.2.2.2.1) (gu (gu (gu (gu (gu (gu (gu (gu (gu A 8 r.2.2.2.2.2.2.2.2.1) 9 r.2.2.2.2.2.2.2.2.2.1) 10 r.2.2.2.2.2.2.2.2.2.2.1) 11 r.2.2.2.2.2.2.2.2.2.2.2.1) 12 r.2.2.2.2.2.2.2.2.2.2.2.2.1) 14 r.2.2.2.2.2.2.2.2.2.2.2.2.2.1) 15 r.2.2.2.2.2.2.2.2.2.2.2.2.2.2.1) 16 r.2.2.2.2.2.2.2.2.2.2.2.2.2.2.2.1) 17 r.2.2.2.2.2.2.2.2.2.2.2.2.2.2.2.2.1) r.2.2.2.2.2.2.2.2.2.2.2.2.2.2.2.2.2.2 r.2.2.2.2.2.2.2.2.2.2.2.2.2.2.2.2.2.1 t) := by
  rcases h01 with e0 | e1
  · subst e0
    refine ⟨-3, (o 0, o 1, o 2, o 3, o 4, o 5, o 6, o 7, A 8, A 9, A 10, A 11, A 12, A 14, A 15, A 16, A 17, h, Cf), s, by unfold pX11_undo; rw [if_pos rfl], by unfold pX12_undo; rw [if_pos rfl], fun z => ?_⟩
    simp only [gu_self]
    exact z
  · subst e1
    obtain ⟨⟨W, C, y, Hn, R, T, hS⟩, hR⟩ := hsw rfl
    obtain ⟨C3, k1, k2⟩ := c_bec hS hR (o 0) (o 1) (o 2) (o 3) (o 4) (o 5) (o 6) (o 7) (A 8) (A 9) (A 10) (A 11) (A 12) (A 14) (A 15) (A 16) (A 17) h Cf
    obtain ⟨b1, k3, k4⟩ := r_un12 (a2 := a2) (o4 := 1) 952 1000 0 s (by omega) (by omega) (fun j hj => absurd hj (Nat.not_lt_zero _))
    have e : pX11_undo F (o2 0) (o2 1) (o2 2) (o2 3) (o2 4) (o2 5) (o2 6) (o2 7) (A2 8) (A2 9) (A2 10) (A2 11) (A2 12) (A2 14) (A2 15) (A2 16) (A2 17) h2 C2 1 (o 0) (o 1) (o 2) (o 3) (o 4) (o 5) (o 6) (o 7) (A 8) (A 9) (A 10) (A 11) (A 12) (A 14) (A 15) (A 16) (A 17) h Cf = some (b1 51, o2 0, o2 1, o2 2, o2 3, o2 4, o2 5, o2 6, o2 7, va_cpy (A2 8) (A 8) 0 0 10, va_cpy (A2 9) (A 9) 0 0 10, va_cpy (A2 10) (A 10) 0 0 10, va_cpy (A2 11) (A 11) 0 0 10, va_cpy (A2 12) (A 12) 0 0 10, va_cpy (A2 14) (A 14) 0 0 20, va_cpy (A2 15) (A 15) 0 0 20, va_cpy (A2 16) (A 16) 0 0 20, va_cpy (A2 17) (A 17) 0 0 100, h2, C3) := by
      unfold pX11_undo
      rw [if_neg (by decide), ev_X10_become_w0_w2, k1, gbd_s, k4 51 (by omega), hR.1.1]
    refine ⟨b1 51, _, b1, e, by unfold pX12_undo; rw [if_neg (by decide)]; exact k3, fun _ => ⟨⟨W, C, y, Hn, R, T, sv_ext k4 hS⟩, ?_⟩⟩
    refine wr_ext k4 hS (wr_cong hR hS (fun k hk => ?_) (fun k hk w hw => ?_) (fun k hk w hw => ?_) (fun w hw => ?_) k2)
    · rcases (show k = 0 ∨ k = 1 ∨ k = 2 ∨ k = 3 ∨ k = 4 ∨ k = 5 ∨ k = 6 ∨ k = 7 by omega) with e | e | e | e | e | e | e | e <;> subst e <;> simp (disch := omega) only [gu_n, gu_s]
    · rcases hk with e | e | e | e | e <;> subst e <;> simp (disch := omega) only [gu_n, gu_s, cpy_at]
    · rcases hk with e | e | e <;> subst e <;> simp (disch := omega) only [gu_n, gu_s, cpy_at]
    · simp (disch := omega) only [gu_s, cpy_at]
end BEC
