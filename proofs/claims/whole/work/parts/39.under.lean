/-! PURE SIDE: moved, best, looked, worker -/
theorem gb_v (x : Int32) : ∃ g : Nat, 1 ≤ g ∧ g ≤ 5 ∧ gb x = nI g := by
  unfold gb
  split
  · split
    · split
      · split
        · exact ⟨1, by omega, by omega, rfl⟩
        · exact ⟨2, by omega, by omega, rfl⟩
      · exact ⟨3, by omega, by omega, rfl⟩
    · exact ⟨4, by omega, by omega, rfl⟩
  · exact ⟨5, by omega, by omega, rfl⟩
theorem GR_v (W : Nat) (p : Nat → Bool) (m : Nat → Int32) (f o : Nat) (kd : Int32) (v y w : Nat) : ∃ g : Nat, 1 ≤ g ∧ g ≤ 5 ∧ GR W p m f o kd v y w = nI g := by
  unfold GR g5
  split
  · exact ⟨1, by omega, by omega, rfl⟩
  · split
    · split
      · exact ⟨4, by omega, by omega, rfl⟩
      · exact ⟨5, by omega, by omega, rfl⟩
    · exact gb_v _
theorem GS_v (s : Nat → Int32) (w : Nat) : ∃ g : Nat, 1 ≤ g ∧ g ≤ 5 ∧ GS s w = nI g := GR_v _ _ _ _ _ _ _ _ _
theorem DU_v (s : Nat → Int32) (w : Nat) : ∃ g : Nat, 1 ≤ g ∧ g ≤ 5 ∧ DU s w = nI g := GR_v _ _ _ _ _ _ _ _ _
section UND
variable {F : gF} {o : Nat → Int32} {A : Nat → Nat → Int32} {Cf : Nat → Option Nat} {h : Nat} {s : Nat → Int32} {W C y Hn R T : Nat}
/-- a row with another chief for one -/
theorem iv_moved (hI : IV s W C y) {w c : Nat} (hw : w < W) (hc : c < C) : IV (upd s (31 + w) (nI c)) W C y := by
  obtain ⟨hW, h10, hC, h4, hy, hy2, hV, hK⟩ := hI
  have hag : ∀ k, k ≠ 31 + w → upd s (31 + w) (nI c) k = s k := fun k hk => pk_un hk
  refine ⟨(hag 51 (by omega)).trans hW, h10, (hag 52 (by omega)).trans hC, h4, (hag 0 (by omega)).trans hy, hy2, fun x hx => ?_, fun c hc => cv_ag (by omega) (fun k h1 h2 => hag k (by omega)) (hK c hc)⟩
  by_cases ex : x = w
  · subst ex
    obtain ⟨a, b, d, e, c', z1, z2, z3, z4, z5, f1, f2, f3, f4, f5⟩ := hV x hx
    exact ⟨a, b, d, e, c, z1, z2, z3, z4, hc, (hag _ (by omega)).trans f1, (hag _ (by omega)).trans f2, (hag _ (by omega)).trans f3, (hag _ (by omega)).trans f4, pk_us⟩
  · exact wv_ag (by omega) (fun k hk => hag k (by omega)) (Nat.le_refl _) (hV x hx)
theorem cfs_work {t : Nat → Int32} {C2 : Nat → Option Nat} (h4 : C ≤ 4) (hag : ∀ k, 51 ≤ k → t k = s k) (hc2 : ∀ j, j < 4 → C2 j = Cf j) (hB : CFS F s C Cf) : CFS F t C C2 := fun c hc => by
  obtain ⟨b, b1, b2⟩ := hB c hc
  exact ⟨b, (hc2 c (by omega)).trans b1, ch_ag (by omega) (fun k h1 h2 => hag k (by omega)) b2⟩
theorem c_under (hS : SV s W C y Hn R T) (hR : WR F o A Cf h s) (p0 p1 p2 p3 p4 p5 p6 p7 : Int32) (b8 b9 b10 b11 b12 b14 b15 b16 b17 : Nat → Int32) (h1 : Nat) (C1 : Nat → Option Nat) (gs : Int32) (g0 g1 g2 g3 g5 : Nat → Int32) {w c B : Nat} (hw : w < W) (hc : c < C) (hB : CH F B s c) : ∃ r, pX11_gradeUnder F (o 0) (o 1) (o 2) (o 3) (o 4) (o 5) (o 6) (o 7) (A 8) (A 9) (A 10) (A 11) (A 12) (A 14) (A 15) (A 16) (A 17) h Cf p0 p1 p2 p3 p4 p5 p6 p7 b8 b9 b10 b11 b12 b14 b15 b16 b17 h1 C1 gs g0 g1 g2 g3 g5 (nI w) B = some (GS (upd s (31 + w) (nI c)) w, r) := by
  have hI := hS.1
  have h10 := hI.2.1
  have h4 := hI.2.2.2.1
  obtain ⟨q0, q1, -, -, -, q5⟩ := wr_o hS hR
  obtain ⟨C2, k1, k2⟩ := c_bec hS hR p0 p1 p2 p3 p4 p5 p6 p7 b8 b9 b10 b11 b12 b14 b15 b16 b17 h1 C1
  have hag : ∀ k, k ≠ 31 + w → upd s (31 + w) (nI c) k = s k := fun k hk => pk_un hk
  have hA := wr_wa hS hR
  obtain ⟨fs, f0, f1, f2, f3, f5, k3⟩ := c_ghad (iv_moved hI hw hc) (hr_ag (hag 56 (by omega)) (fun k hk => hag k (by omega)) (sv_56 hS) (wr_hr hR)) (cfs_work h4 (fun k hk => hag k (by omega)) k2 (wr_cfs hS hR)) (A8 := va_cpy (A 8) b8 0 0 10) (A9 := va_cpy (A 9) b9 0 0 10) (A10 := upd (va_cpy (A 10) b10 0 0 10) w (nI c)) (A11 := va_cpy (A 11) b11 0 0 10) (fun x hx => by
    obtain ⟨p8, p9, p10, p11⟩ := hA x hx
    simp (disch := omega) only [cpy_at, hag]
    refine ⟨p8, p9, ?_, p11⟩
    by_cases ex : x = w
    · subst ex; rw [pk_us, pk_us]
    · rw [pk_un ex, hag _ (by omega), cpy_at (by omega)]; exact p10) gs g0 g1 g2 g3 g5 hw
  exact ⟨_, by
    unfold pX11_gradeUnder
    rw [k1, gbd_s, gck_t hB.1, gck_t (ginb_t (by omega) (by decide)), gnm_e, hB.2.2.1, n_cl (by omega), ev_X1_gradeHad_w1, q0, q1, q5, k3, gbd_s]⟩
theorem r_under (hS : SV s W C y Hn R T) (hR : WR F o A Cf h s) (a10 a11 a12 a13 a15 : Nat → Int32) {w c : Nat} (hw : w < W) (hc : c < C) : ∃ b10 b11 b12 b13 b15, pX12_movedOf s a10 a11 a12 a13 a15 (nI w) (nI c) = some (GS (upd s (31 + w) (nI c)) w, s, b10, b11, b12, b13, b15) := by
  have hI := hS.1
  have h10 := hI.2.1
  have h4 := hI.2.2.2.1
  have hag : ∀ k, k ≠ 31 + w → upd s (31 + w) (nI c) k = s k := fun k hk => pk_un hk
  obtain ⟨b10, b11, b12, b13, b15, k1, k2⟩ := r_gall (iv_moved hI hw hc) (hr_ag (hag 56 (by omega)) (fun k hk => hag k (by omega)) (sv_56 hS) (wr_hr hR)) (cfs_chs (cfs_work h4 (fun k hk => hag k (by omega)) (fun _ _ => rfl) (wr_cfs hS hR))) a10 a11 a12 a13 a15
  have hback : upd (upd s (31 + w) (nI c)) (31 + w) (s (31 + w)) = s := by
    funext k
    by_cases e : k = 31 + w
    · rw [e, pk_us]
    · rw [pk_un e, pk_un e]
  refine ⟨b10, b11, b12, b13, b15, ?_⟩
  unfold pX12_movedOf
  simp (disch := omega) only [n_lit, nI_add, nI_1, n_cl, gck_in, gck_t, gck_T, ↓gnm_e, gbd_s, ↓reduceIte, n_leT, n_leF, n_ltT, n_ltF, n_eqT, n_eqF, Nat.add_zero, Nat.zero_add, k1, hback, k2 w hw]
theorem m_moved (hS : SV s W C y Hn R T) (hR : WR F o A Cf h s) (p0 p1 p2 p3 p4 p5 p6 p7 : Int32) (b8 b9 b10 b11 b12 b14 b15 b16 b17 : Nat → Int32) (h1 : Nat) (C1 : Nat → Option Nat) (gs : Int32) (g0 g1 g2 g3 g5 : Nat → Int32) (a10 a11 a12 a13 a15 : Nat → Int32) (x1 x2 : Int32) : ∃ v r r', pX11_moved F (o 0) (o 1) (o 2) (o 3) (o 4) (o 5) (o 6) (o 7) (A 8) (A 9) (A 10) (A 11) (A 12) (A 14) (A 15) (A 16) (A 17) h Cf p0 p1 p2 p3 p4 p5 p6 p7 b8 b9 b10 b11 b12 b14 b15 b16 b17 h1 C1 gs g0 g1 g2 g3 g5 x1 x2 = some (v, r) ∧ pX12_moved s a10 a11 a12 a13 a15 x1 x2 = some (v, s, r') := by
  have hI := hS.1
  obtain ⟨hW, h10, hC, h4, hy, hy2, hV, hK⟩ := id hI
  obtain ⟨e0, e1, -, -, -, e5⟩ := wr_o hS hR
  unfold pX11_moved pX12_moved
  rcases x_lt x1 (n := W) (by omega) with ⟨w, hw, rfl⟩ | hx1
  · have z1 := isw_t hW h10 hw
    have z2 := c_has h10 hw
    rcases x_lt x2 (n := C) (by omega) with ⟨c, hc, rfl⟩ | hx2
    · obtain ⟨b, hb, hch⟩ := wr_cfs hS hR c hc
      have z3 := c_chief h4 hc hb
      have z4 := isc_t hC h4 hc
      obtain ⟨r, k1⟩ := c_under hS hR p0 p1 p2 p3 p4 p5 p6 p7 b8 b9 b10 b11 b12 b14 b15 b16 b17 h1 C1 gs g0 g1 g2 g3 g5 hw hc hch
      obtain ⟨b10, b11, b12, b13, b15, k2⟩ := r_under hS hR a10 a11 a12 a13 a15 hw hc
      exact ⟨_, _, _, by rw [e1, z3, gbd_s, gmt_s, e0, z2, gbd_s, ib1, ← e0, ← e1, k1, gbd_s], by rw [z1, gbd_s, ib1, z4, gbd_s, ib1, k2, gbd_s]⟩
    · have z3 := cat_f (Cf := Cf) hx2
      have z4 := isc_f hC h4 hx2
      exact ⟨-1, _, _, by rw [e1, z3, gbd_s, gmt_n, e0, z2, gbd_s, ib1], by rw [z1, gbd_s, ib1, z4, gbd_s, ib0]⟩
  · have z1 := isw_f hW h10 hx1
    have z2 := has_f hx1
    rcases x_lt x2 (n := C) (by omega) with ⟨c, hc, rfl⟩ | hx2
    · obtain ⟨b, hb, hch⟩ := wr_cfs hS hR c hc
      have z3 := c_chief h4 hc hb
      exact ⟨-1, _, _, by rw [e1, z3, gbd_s, gmt_s, e0, z2, gbd_s, ib0], by rw [z1, gbd_s, ib0]⟩
    · have z3 := cat_f (Cf := Cf) hx2
      exact ⟨-1, _, _, by rw [e1, z3, gbd_s, gmt_n, e0, z2, gbd_s, ib0], by rw [z1, gbd_s, ib0]⟩
theorem neg1_le {g : Nat} (h : g < 1000) : ¬ nI g ≤ (-1 : Int32) := by
  rw [n_leI, n_ti (by omega), show ((-1 : Int32).toInt) = -1 from by decide]; omega
/-- both are at chief c with the same best -/
theorem j_best (hS : SV s W C y Hn R T) (hR : WR F o A Cf h s) {w : Nat} (hw : w < W) {x2 : Int32} (hx2 : x2 = nI 0 ∨ x2 = nI 1) : ∀ k n n' c : Nat, ∀ (p0 p1 p2 p3 p4 p5 p6 p7 : Int32) (b8 b9 b10 b11 b12 b14 b15 b16 b17 : Nat → Int32) (h1 : Nat) (C1 : Nat → Option Nat) (gs : Int32) (g0 g1 g2 g3 g5 : Nat → Int32) (a10 a11 a12 a13 a15 : Nat → Int32) (to mo : Nat), c + k = 4 → k < n → k < n' → 1 ≤ mo → mo < 1000 → c ≤ C → ∃ v r r', pX11_best_30 F (o 0) (o 1) (o 2) (o 3) (o 4) (o 5) (o 6) (o 7) (A 8) (A 9) (A 10) (A 11) (A 12) (A 14) (A 15) (A 16) (A 17) h Cf n p0 p1 p2 p3 p4 p5 p6 p7 b8 b9 b10 b11 b12 b14 b15 b16 b17 h1 C1 gs g0 g1 g2 g3 g5 (nI w) x2 (nI to) (nI mo) (nI c) = some (v, r) ∧ pX12_best_27 n' s a10 a11 a12 a13 a15 (nI w) x2 (nI to) (nI mo) (nI c) = some (v, s, r') := by
  have hI := hS.1
  obtain ⟨hW, h10, hC, h4, hy, hy2, hV, hK⟩ := id hI
  obtain ⟨e0, e1, -, -, -, e5⟩ := wr_o hS hR
  have done : ∀ k n c : Nat, ∀ (p0 p1 p2 p3 p4 p5 p6 p7 : Int32) (b8 b9 b10 b11 b12 b14 b15 b16 b17 : Nat → Int32) (h1 : Nat) (C1 : Nat → Option Nat) (gs : Int32) (g0 g1 g2 g3 g5 : Nat → Int32) (to mo : Nat), c + k = 4 → k < n → 1 ≤ mo → mo < 1000 → C ≤ c → ∃ r, pX11_best_30 F (o 0) (o 1) (o 2) (o 3) (o 4) (o 5) (o 6) (o 7) (A 8) (A 9) (A 10) (A 11) (A 12) (A 14) (A 15) (A 16) (A 17) h Cf n p0 p1 p2 p3 p4 p5 p6 p7 b8 b9 b10 b11 b12 b14 b15 b16 b17 h1 C1 gs g0 g1 g2 g3 g5 (nI w) x2 (nI to) (nI mo) (nI c) = some (if x2 = nI 0 then nI to else nI mo, r) := by
    intro k
    induction k with
    | zero =>
      intro n c
      intros
      obtain ⟨n, rfl⟩ : ∃ j, n = j + 1 := ⟨n - 1, by omega⟩
      have e2 : c = 4 := by omega
      subst e2
      rcases hx2 with z | z <;> subst z
      · exact ⟨_, by rw [pX11_best_30, if_pos (by decide), ib0, if_pos rfl]⟩
      · exact ⟨_, by rw [pX11_best_30, if_pos (by decide), ib1, if_neg (by decide)]⟩
    | succ k ih =>
      intro n c p0 p1 p2 p3 p4 p5 p6 p7 b8 b9 b10 b11 b12 b14 b15 b16 b17 h1 C1 gs g0 g1 g2 g3 g5 to mo e hn hm hm2 hc
      obtain ⟨n, rfl⟩ : ∃ j, n = j + 1 := ⟨n - 1, by omega⟩
      obtain ⟨r, k1⟩ := ih n (c + 1) p0 p1 p2 p3 p4 p5 p6 p7 b8 b9 b10 b11 b12 b14 b15 b16 b17 h1 C1 gs g0 g1 g2 g3 g5 to mo (by omega) (by omega) hm hm2 (by omega)
      refine ⟨r, ?_⟩
      have z3 := cat_f (C := C) (Cf := Cf) (x := nI c) (Or.inr (by rw [n_leT hc (by omega)]; trivial))
      rw [pX11_best_30, if_neg (by rw [n_lit, n_leF (by omega) (by omega)]; exact fun z => z), e1, z3, gbd_s, gmt_n, if_pos (n_leI.mpr (by rw [n_ti (by omega), show ((-1 : Int32).toInt) = -1 from by decide]; omega)), ← e1, nI_1]
      exact k1
  intro k
  induction k with
  | zero =>
    intro n n' c p0 p1 p2 p3 p4 p5 p6 p7 b8 b9 b10 b11 b12 b14 b15 b16 b17 h1 C1 gs g0 g1 g2 g3 g5 a10 a11 a12 a13 a15 to mo e hn hn' hm hm2 hc
    obtain ⟨n', rfl⟩ : ∃ j, n' = j + 1 := ⟨n' - 1, by omega⟩
    obtain ⟨r, k1⟩ := done 0 n c p0 p1 p2 p3 p4 p5 p6 p7 b8 b9 b10 b11 b12 b14 b15 b16 b17 h1 C1 gs g0 g1 g2 g3 g5 to mo e hn hm hm2 (by omega)
    have e2 : c = C := by omega
    refine ⟨_, r, (a10, a11, a12, a13, a15), k1, ?_⟩
    rw [pX12_best_27, n_cl (show 52 < 2147483648 by decide) |> (fun z => (show (52 : Int32).toNatClampNeg = 52 from z)), hC, if_pos (by rw [e2, n_leT (Nat.le_refl _) (by omega)]; trivial), gck_t (by decide)]
    rcases hx2 with z | z <;> subst z
    · rw [ib0, if_pos rfl]
    · rw [ib1, if_neg (by decide)]
  | succ k ih =>
    intro n n' c p0 p1 p2 p3 p4 p5 p6 p7 b8 b9 b10 b11 b12 b14 b15 b16 b17 h1 C1 gs g0 g1 g2 g3 g5 a10 a11 a12 a13 a15 to mo e hn hn' hm hm2 hc
    have c52 : (52 : Int32).toNatClampNeg = 52 := by decide
    by_cases ec : c = C
    · obtain ⟨n', rfl⟩ : ∃ j, n' = j + 1 := ⟨n' - 1, by omega⟩
      obtain ⟨r, k1⟩ := done (k + 1) n c p0 p1 p2 p3 p4 p5 p6 p7 b8 b9 b10 b11 b12 b14 b15 b16 b17 h1 C1 gs g0 g1 g2 g3 g5 to mo e hn hm hm2 (by omega)
      refine ⟨_, r, (a10, a11, a12, a13, a15), k1, ?_⟩
      rw [pX12_best_27, c52, hC, if_pos (by rw [ec, n_leT (Nat.le_refl _) (by omega)]; trivial), gck_t (by decide)]
      rcases hx2 with z | z <;> subst z
      · rw [ib0, if_pos rfl]
      · rw [ib1, if_neg (by decide)]
    · have hcC : c < C := by omega
      obtain ⟨n, rfl⟩ : ∃ j, n = j + 1 := ⟨n - 1, by omega⟩
      obtain ⟨n', rfl⟩ : ∃ j, n' = j + 1 := ⟨n' - 1, by omega⟩
      obtain ⟨b, hb, hch⟩ := wr_cfs hS hR c hcC
      have z3 := c_chief h4 hcC hb
      obtain ⟨r, k1⟩ := c_under hS hR p0 p1 p2 p3 p4 p5 p6 p7 b8 b9 b10 b11 b12 b14 b15 b16 b17 h1 C1 gs g0 g1 g2 g3 g5 hw hcC hch
      obtain ⟨d10, d11, d12, d13, d15, k2⟩ := r_under hS hR a10 a11 a12 a13 a15 hw hcC
      obtain ⟨g, q1, q2, q3⟩ := GS_v (upd s (31 + w) (nI c)) w
      rw [q3] at k1 k2
      by_cases hl : g ≤ mo
      · obtain ⟨v, r1, r2, k3, k4⟩ := ih n n' (c + 1) r.1 r.2.1 r.2.2.1 r.2.2.2.1 r.2.2.2.2.1 r.2.2.2.2.2.1 r.2.2.2.2.2.2.1 r.2.2.2.2.2.2.2.1 r.2.2.2.2.2.2.2.2.1 r.2.2.2.2.2.2.2.2.2.1 r.2.2.2.2.2.2.2.2.2.2.1 r.2.2.2.2.2.2.2.2.2.2.2.1 r.2.2.2.2.2.2.2.2.2.2.2.2.1 r.2.2.2.2.2.2.2.2.2.2.2.2.2.1 r.2.2.2.2.2.2.2.2.2.2.2.2.2.2.1 r.2.2.2.2.2.2.2.2.2.2.2.2.2.2.2.1 r.2.2.2.2.2.2.2.2.2.2.2.2.2.2.2.2.1 r.2.2.2.2.2.2.2.2.2.2.2.2.2.2.2.2.2.1 r.2.2.2.2.2.2.2.2.2.2.2.2.2.2.2.2.2.2.1 r.2.2.2.2.2.2.2.2.2.2.2.2.2.2.2.2.2.2.2.1 r.2.2.2.2.2.2.2.2.2.2.2.2.2.2.2.2.2.2.2.2.1 r.2.2.2.2.2.2.2.2.2.2.2.2.2.2.2.2.2.2.2.2.2.1 r.2.2.2.2.2.2.2.2.2.2.2.2.2.2.2.2.2.2.2.2.2.2.1 r.2.2.2.2.2.2.2.2.2.2.2.2.2.2.2.2.2.2.2.2.2.2.2.1 r.2.2.2.2.2.2.2.2.2.2.2.2.2.2.2.2.2.2.2.2.2.2.2.2 d10 d11 d12 d13 d15 to mo (by omega) (by omega) (by omega) hm hm2 (by omega)
        refine ⟨v, r1, r2, ?_, ?_⟩
        · rw [pX11_best_30, if_neg (by rw [n_lit, n_leF (by omega) (by omega)]; exact fun z => z), e1, z3, gbd_s, gmt_s, ← e1, k1, gbd_s, gnm_e, if_pos (by rw [n_leT hl (by omega)]; trivial), nI_1]
          exact k3
        · rw [pX12_best_27, c52, hC, if_neg (by rw [n_leF hcC (by omega)]; exact fun z => z), gck_t (by decide), k2, gbd_s, gnm_e, if_pos (by rw [n_leT hl (by omega)]; trivial)]
          unfold pX12_best_61
          rw [if_pos (by rw [n_leT hl (by omega)]; trivial), nI_1]
          exact k4
      · obtain ⟨v, r1, r2, k3, k4⟩ := ih n n' (c + 1) r.1 r.2.1 r.2.2.1 r.2.2.2.1 r.2.2.2.2.1 r.2.2.2.2.2.1 r.2.2.2.2.2.2.1 r.2.2.2.2.2.2.2.1 r.2.2.2.2.2.2.2.2.1 r.2.2.2.2.2.2.2.2.2.1 r.2.2.2.2.2.2.2.2.2.2.1 r.2.2.2.2.2.2.2.2.2.2.2.1 r.2.2.2.2.2.2.2.2.2.2.2.2.1 r.2.2.2.2.2.2.2.2.2.2.2.2.2.1 r.2.2.2.2.2.2.2.2.2.2.2.2.2.2.1 r.2.2.2.2.2.2.2.2.2.2.2.2.2.2.2.1 r.2.2.2.2.2.2.2.2.2.2.2.2.2.2.2.2.1 r.2.2.2.2.2.2.2.2.2.2.2.2.2.2.2.2.2.1 r.2.2.2.2.2.2.2.2.2.2.2.2.2.2.2.2.2.2.1 r.2.2.2.2.2.2.2.2.2.2.2.2.2.2.2.2.2.2.2.1 r.2.2.2.2.2.2.2.2.2.2.2.2.2.2.2.2.2.2.2.2.1 r.2.2.2.2.2.2.2.2.2.2.2.2.2.2.2.2.2.2.2.2.2.1 r.2.2.2.2.2.2.2.2.2.2.2.2.2.2.2.2.2.2.2.2.2.2.1 r.2.2.2.2.2.2.2.2.2.2.2.2.2.2.2.2.2.2.2.2.2.2.2.1 r.2.2.2.2.2.2.2.2.2.2.2.2.2.2.2.2.2.2.2.2.2.2.2.2 d10 d11 d12 d13 d15 c g (by omega) (by omega) (by omega) q1 (by omega) (by omega)
        refine ⟨v, r1, r2, ?_, ?_⟩
        · rw [pX11_best_30, if_neg (by rw [n_lit, n_leF (by omega) (by omega)]; exact fun z => z), e1, z3, gbd_s, gmt_s, ← e1, k1, gbd_s, gnm_e, if_neg (by rw [n_leF (by omega) (by omega)]; exact fun z => z), nI_1]
          exact k3
        · rw [pX12_best_27, c52, hC, if_neg (by rw [n_leF hcC (by omega)]; exact fun z => z), gck_t (by decide), k2, gbd_s, gnm_e, if_neg (by rw [n_leF (by omega) (by omega)]; exact fun z => z)]
          unfold pX12_best_61
          rw [if_neg (by rw [n_leF (by omega) (by omega)]; exact fun z => z), nI_1]
          exact k4
theorem m_best (hS : SV s W C y Hn R T) (hR : WR F o A Cf h s) (p0 p1 p2 p3 p4 p5 p6 p7 : Int32) (b8 b9 b10 b11 b12 b14 b15 b16 b17 : Nat → Int32) (h1 : Nat) (C1 : Nat → Option Nat) (gs : Int32) (g0 g1 g2 g3 g5 : Nat → Int32) (a10 a11 a12 a13 a15 : Nat → Int32) (x1 x2 : Int32) : ∃ v r r', pX11_best F (o 0) (o 1) (o 2) (o 3) (o 4) (o 5) (o 6) (o 7) (A 8) (A 9) (A 10) (A 11) (A 12) (A 14) (A 15) (A 16) (A 17) h Cf p0 p1 p2 p3 p4 p5 p6 p7 b8 b9 b10 b11 b12 b14 b15 b16 b17 h1 C1 gs g0 g1 g2 g3 g5 x1 x2 = some (v, r) ∧ pX12_best s a10 a11 a12 a13 a15 x1 x2 = some (v, s, r') := by
  have hI := hS.1
  obtain ⟨hW, h10, hC, h4, hy, hy2, hV, hK⟩ := id hI
  obtain ⟨e0, e1, -, -, -, e5⟩ := wr_o hS hR
  unfold pX11_best pX12_best
  rcases x_lt x1 (n := W) (by omega) with ⟨w, hw, rfl⟩ | hx1
  · have z1 := isw_t hW h10 hw
    have z2 := c_has h10 hw
    rcases x_in x2 (n := 1) (by decide) with ⟨j, hj, rfl⟩ | hx2
    · have hin : pX12_in (nI j) 0 1 = some (nI 1) := in_nT (a := 0) (n := 1) (by omega) hj (by decide)
      have h1C : 0 < C := by have := (iv_ch hI hw).1; omega
      obtain ⟨b, hb, hch⟩ := wr_cfs hS hR 0 h1C
      have z3 := c_chief h4 h1C hb
      obtain ⟨r, k1⟩ := c_under hS hR p0 p1 p2 p3 p4 p5 p6 p7 b8 b9 b10 b11 b12 b14 b15 b16 b17 h1 C1 gs g0 g1 g2 g3 g5 hw h1C hch
      obtain ⟨d10, d11, d12, d13, d15, k2⟩ := r_under hS hR a10 a11 a12 a13 a15 hw h1C
      obtain ⟨g, q1, q2, q3⟩ := GS_v (upd s (31 + w) (nI 0)) w
      rw [q3] at k1 k2
      have c52 : (52 : Int32).toNatClampNeg = 52 := by decide
      obtain ⟨v, r1, r2, k3, k4⟩ := j_best hS hR hw (x2 := nI j) (by rcases (show j = 0 ∨ j = 1 by omega) with e | e <;> subst e <;> simp) 3 999 999 1 r.1 r.2.1 r.2.2.1 r.2.2.2.1 r.2.2.2.2.1 r.2.2.2.2.2.1 r.2.2.2.2.2.2.1 r.2.2.2.2.2.2.2.1 r.2.2.2.2.2.2.2.2.1 r.2.2.2.2.2.2.2.2.2.1 r.2.2.2.2.2.2.2.2.2.2.1 r.2.2.2.2.2.2.2.2.2.2.2.1 r.2.2.2.2.2.2.2.2.2.2.2.2.1 r.2.2.2.2.2.2.2.2.2.2.2.2.2.1 r.2.2.2.2.2.2.2.2.2.2.2.2.2.2.1 r.2.2.2.2.2.2.2.2.2.2.2.2.2.2.2.1 r.2.2.2.2.2.2.2.2.2.2.2.2.2.2.2.2.1 r.2.2.2.2.2.2.2.2.2.2.2.2.2.2.2.2.2.1 r.2.2.2.2.2.2.2.2.2.2.2.2.2.2.2.2.2.2.1 r.2.2.2.2.2.2.2.2.2.2.2.2.2.2.2.2.2.2.2.1 r.2.2.2.2.2.2.2.2.2.2.2.2.2.2.2.2.2.2.2.2.1 r.2.2.2.2.2.2.2.2.2.2.2.2.2.2.2.2.2.2.2.2.2.1 r.2.2.2.2.2.2.2.2.2.2.2.2.2.2.2.2.2.2.2.2.2.2.1 r.2.2.2.2.2.2.2.2.2.2.2.2.2.2.2.2.2.2.2.2.2.2.2.1 r.2.2.2.2.2.2.2.2.2.2.2.2.2.2.2.2.2.2.2.2.2.2.2.2 d10 d11 d12 d13 d15 0 g (by omega) (by omega) (by omega) q1 (by omega) (by omega)
      refine ⟨v, r1, r2, ?_, ?_⟩
      · rw [e0, z2, gbd_s, ib1, if_neg (show ¬ nI j < 0 by rw [n_lit, n_ltF (by omega) (by omega)]; exact fun z => z), if_pos (show nI j ≤ 1 by rw [n_lit, n_leT hj (by omega)]; trivial), ← e0]
        have hfuel : (1000 : Nat) = 999 + 1 := rfl
        rw [hfuel, pX11_best_30, if_neg (show ¬ (4 : Int32) ≤ 0 by decide), e1, show (0 : Int32) = nI 0 from rfl, z3, gbd_s, gmt_s, ← e1, k1, gbd_s, gnm_e, if_neg (neg1_le (by omega)), show nI 0 + 1 = nI 1 from rfl]
        exact k3
      · rw [z1, gbd_s, ib1, hin, gbd_s, ib1]
        have hfuel : (1000 : Nat) = 999 + 1 := rfl
        rw [hfuel, pX12_best_27, c52, hC, show (0 : Int32) = nI 0 from rfl, if_neg (by rw [n_leF h1C (by omega)]; exact fun z => z), gck_t (by decide), k2, gbd_s, gnm_e, if_neg (by rw [n_leF (by omega) (by omega)]; exact fun z => z)]
        unfold pX12_best_61
        rw [if_neg (by rw [n_leF (by omega) (by omega)]; exact fun z => z), show nI 0 + 1 = nI 1 from rfl]
        exact k4
    · have hin : pX12_in x2 0 1 = some (nI 0) := in_f hx2
      have hsel : ∀ {α : Type} (p q : α), (if x2 < 0 then p else if x2 ≤ 1 then q else p) = p := fun p q => by
        by_cases w0 : x2 < 0
        · rw [if_pos w0]
        · rw [if_neg w0, if_neg (show ¬ x2 ≤ 1 from n_nle.mpr (hx2.resolve_left w0))]
      exact ⟨-1, _, _, by rw [e0, z2, gbd_s, ib1, hsel], by rw [z1, gbd_s, ib1, hin, gbd_s, ib0]⟩
  · have z1 := isw_f hW h10 hx1
    have z2 := has_f hx1
    exact ⟨-1, _, _, by rw [e0, z2, gbd_s, ib0], by rw [z1, gbd_s, ib0]⟩
theorem j_looked (hS : SV s W C y Hn R T) (hR : WR F o A Cf h s) : ∀ k n n' x : Nat, ∀ (p0 p1 p2 p3 p4 p5 p6 p7 : Int32) (b8 b9 b10 b11 b12 b14 b15 b16 b17 : Nat → Int32) (h1 : Nat) (C1 : Nat → Option Nat) (gs : Int32) (g0 g1 g2 g3 g5 : Nat → Int32) (a10 a11 a12 a13 a15 : Nat → Int32), x + k = R → k < n → k < n' → ∃ v r r', pX11_looked_2 F (o 0) (o 1) (o 2) (o 3) (o 4) (o 5) (o 6) (o 7) (A 8) (A 9) (A 10) (A 11) (A 12) (A 14) (A 15) (A 16) (A 17) h Cf n p0 p1 p2 p3 p4 p5 p6 p7 b8 b9 b10 b11 b12 b14 b15 b16 b17 h1 C1 gs g0 g1 g2 g3 g5 (nI x) = some (v, r) ∧ pX12_looked_2 n' s a10 a11 a12 a13 a15 (nI x) = some (v, s, r') := by
  have hI := hS.1
  obtain ⟨hW, h10, hC, h4, hy, hy2, hV, hK⟩ := id hI
  obtain ⟨e0, e1, -, e3, -, e5⟩ := wr_o hS hR
  have h20 := hS.2.2.2.2.2.1
  have s54 := hS.2.2.2.2.1
  have c54 : (54 : Int32).toNatClampNeg = 54 := by decide
  intro k
  induction k with
  | zero =>
    intro n n' x p0 p1 p2 p3 p4 p5 p6 p7 b8 b9 b10 b11 b12 b14 b15 b16 b17 h1 C1 gs g0 g1 g2 g3 g5 a10 a11 a12 a13 a15 e hn hn'
    obtain ⟨n, rfl⟩ : ∃ j, n = j + 1 := ⟨n - 1, by omega⟩
    obtain ⟨n', rfl⟩ : ∃ j, n' = j + 1 := ⟨n' - 1, by omega⟩
    have e2 : x = R := by omega
    subst e2
    exact ⟨-5, _, _, by rw [pX11_looked_2, e3, if_pos (n_leI.mpr (Int.le_refl _))], by rw [pX12_looked_2, c54, s54, if_pos (n_leI.mpr (Int.le_refl _)), gck_t (by decide)]⟩
  | succ k ih =>
    intro n n' x p0 p1 p2 p3 p4 p5 p6 p7 b8 b9 b10 b11 b12 b14 b15 b16 b17 h1 C1 gs g0 g1 g2 g3 g5 a10 a11 a12 a13 a15 e hn hn'
    obtain ⟨n, rfl⟩ : ∃ j, n = j + 1 := ⟨n - 1, by omega⟩
    obtain ⟨n', rfl⟩ : ∃ j, n' = j + 1 := ⟨n' - 1, by omega⟩
    have hx : x < R := by omega
    obtain ⟨w, c, g, hw, hc, g1', g5', f1, f2, f3⟩ := hS.2.2.2.2.2.2.2.2.2.2.1 x hx
    obtain ⟨q14, q15, q16⟩ := hR.2.2.1 x (by omega)
    obtain ⟨b, hb, hch⟩ := wr_cfs hS hR c hc
    have z3 := c_chief h4 hc hb
    obtain ⟨r, k1⟩ := c_under hS hR p0 p1 p2 p3 p4 p5 p6 p7 b8 b9 b10 b11 b12 b14 b15 b16 b17 h1 C1 gs g0 g1 g2 g3 g5 hw hc hch
    obtain ⟨d10, d11, d12, d13, d15, k2⟩ := r_under hS hR a10 a11 a12 a13 a15 hw hc
    have u1 : pX11_looked_2 F (o 0) (o 1) (o 2) (o 3) (o 4) (o 5) (o 6) (o 7) (A 8) (A 9) (A 10) (A 11) (A 12) (A 14) (A 15) (A 16) (A 17) h Cf (n + 1) p0 p1 p2 p3 p4 p5 p6 p7 b8 b9 b10 b11 b12 b14 b15 b16 b17 h1 C1 gs g0 g1 g2 g3 g5 (nI x) = if GS (upd s (31 + w) (nI c)) w = nI g then pX11_looked_2 F (o 0) (o 1) (o 2) (o 3) (o 4) (o 5) (o 6) (o 7) (A 8) (A 9) (A 10) (A 11) (A 12) (A 14) (A 15) (A 16) (A 17) h Cf n r.1 r.2.1 r.2.2.1 r.2.2.2.1 r.2.2.2.2.1 r.2.2.2.2.2.1 r.2.2.2.2.2.2.1 r.2.2.2.2.2.2.2.1 r.2.2.2.2.2.2.2.2.1 r.2.2.2.2.2.2.2.2.2.1 r.2.2.2.2.2.2.2.2.2.2.1 r.2.2.2.2.2.2.2.2.2.2.2.1 r.2.2.2.2.2.2.2.2.2.2.2.2.1 r.2.2.2.2.2.2.2.2.2.2.2.2.2.1 r.2.2.2.2.2.2.2.2.2.2.2.2.2.2.1 r.2.2.2.2.2.2.2.2.2.2.2.2.2.2.2.1 r.2.2.2.2.2.2.2.2.2.2.2.2.2.2.2.2.1 r.2.2.2.2.2.2.2.2.2.2.2.2.2.2.2.2.2.1 r.2.2.2.2.2.2.2.2.2.2.2.2.2.2.2.2.2.2.1 r.2.2.2.2.2.2.2.2.2.2.2.2.2.2.2.2.2.2.2.1 r.2.2.2.2.2.2.2.2.2.2.2.2.2.2.2.2.2.2.2.2.1 r.2.2.2.2.2.2.2.2.2.2.2.2.2.2.2.2.2.2.2.2.2.1 r.2.2.2.2.2.2.2.2.2.2.2.2.2.2.2.2.2.2.2.2.2.2.1 r.2.2.2.2.2.2.2.2.2.2.2.2.2.2.2.2.2.2.2.2.2.2.2.1 r.2.2.2.2.2.2.2.2.2.2.2.2.2.2.2.2.2.2.2.2.2.2.2.2 (nI (x + 1)) else some (nI x, r) := by
      rw [pX11_looked_2, e3, if_neg (by rw [n_leF hx (by omega)]; exact fun z => z), if_neg (by rw [n_lit, n_leF (by omega) (by omega)]; exact fun z => z), gck_t (ginb_t (by omega) (by decide)), n_cl (by omega), q15, f2, e1, z3, gbd_s, gmt_s, gck_t (ginb_t (by omega) (by decide)), q14, f1, ← e1, ← e3, k1, gbd_s, gck_t (ginb_t (by omega) (by decide)), q16, f3, nI_1]
    have u2 : pX12_looked_2 (n' + 1) s a10 a11 a12 a13 a15 (nI x) = if GS (upd s (31 + w) (nI c)) w = nI g then pX12_looked_2 n' s d10 d11 d12 d13 d15 (nI (x + 1)) else some (nI x, s, d10, d11, d12, d13, d15) := by
      simp (disch := omega) only [pX12_looked_2, n_lit, nI_add, nI_1, n_cl, gck_in, gck_t, gck_T, ↓gnm_e, gbd_s, ↓reduceIte, n_leT, n_leF, n_ltT, n_ltF, n_eqT, n_eqF, Nat.add_zero, Nat.zero_add, s54, f1, f2, f3, k2]
    by_cases hg : GS (upd s (31 + w) (nI c)) w = nI g
    · rw [if_pos hg] at u1 u2
      obtain ⟨v, r1, r2, k3, k4⟩ := ih n n' (x + 1) r.1 r.2.1 r.2.2.1 r.2.2.2.1 r.2.2.2.2.1 r.2.2.2.2.2.1 r.2.2.2.2.2.2.1 r.2.2.2.2.2.2.2.1 r.2.2.2.2.2.2.2.2.1 r.2.2.2.2.2.2.2.2.2.1 r.2.2.2.2.2.2.2.2.2.2.1 r.2.2.2.2.2.2.2.2.2.2.2.1 r.2.2.2.2.2.2.2.2.2.2.2.2.1 r.2.2.2.2.2.2.2.2.2.2.2.2.2.1 r.2.2.2.2.2.2.2.2.2.2.2.2.2.2.1 r.2.2.2.2.2.2.2.2.2.2.2.2.2.2.2.1 r.2.2.2.2.2.2.2.2.2.2.2.2.2.2.2.2.1 r.2.2.2.2.2.2.2.2.2.2.2.2.2.2.2.2.2.1 r.2.2.2.2.2.2.2.2.2.2.2.2.2.2.2.2.2.2.1 r.2.2.2.2.2.2.2.2.2.2.2.2.2.2.2.2.2.2.2.1 r.2.2.2.2.2.2.2.2.2.2.2.2.2.2.2.2.2.2.2.2.1 r.2.2.2.2.2.2.2.2.2.2.2.2.2.2.2.2.2.2.2.2.2.1 r.2.2.2.2.2.2.2.2.2.2.2.2.2.2.2.2.2.2.2.2.2.2.1 r.2.2.2.2.2.2.2.2.2.2.2.2.2.2.2.2.2.2.2.2.2.2.2.1 r.2.2.2.2.2.2.2.2.2.2.2.2.2.2.2.2.2.2.2.2.2.2.2.2 d10 d11 d12 d13 d15 (by omega) (by omega) (by omega)
      exact ⟨v, r1, r2, u1.trans k3, u2.trans k4⟩
    · rw [if_neg hg] at u1 u2
      exact ⟨_, _, _, u1, u2⟩
theorem m_looked (hS : SV s W C y Hn R T) (hR : WR F o A Cf h s) (p0 p1 p2 p3 p4 p5 p6 p7 : Int32) (b8 b9 b10 b11 b12 b14 b15 b16 b17 : Nat → Int32) (h1 : Nat) (C1 : Nat → Option Nat) (gs : Int32) (g0 g1 g2 g3 g5 : Nat → Int32) (a10 a11 a12 a13 a15 : Nat → Int32) : ∃ v r r', pX11_looked F (o 0) (o 1) (o 2) (o 3) (o 4) (o 5) (o 6) (o 7) (A 8) (A 9) (A 10) (A 11) (A 12) (A 14) (A 15) (A 16) (A 17) h Cf p0 p1 p2 p3 p4 p5 p6 p7 b8 b9 b10 b11 b12 b14 b15 b16 b17 h1 C1 gs g0 g1 g2 g3 g5 = some (v, r) ∧ pX12_looked s a10 a11 a12 a13 a15 = some (v, s, r') := by
  have h20 := hS.2.2.2.2.2.1
  unfold pX11_looked pX12_looked
  exact j_looked hS hR R 1000 1000 0 p0 p1 p2 p3 p4 p5 p6 p7 b8 b9 b10 b11 b12 b14 b15 b16 b17 h1 C1 gs g0 g1 g2 g3 g5 a10 a11 a12 a13 a15 (by omega) (by omega) (by omega)
end UND
