/-! PURE SIDE: a year, the component -/
section YEAR
variable {F : gF} {h : Nat} {s : Nat → Int32} {W C y : Nat}
/-- the trial's worth, late, pay show a row that is under way -/
theorem c_repl {o6 o7 : Int32} {A8 A9 A12 : Nat → Int32} (h10 : W ≤ 10) {w : Nat} (hw : w < W) : pX10_replace_w0 (nI W) o6 o7 A8 A9 A12 (nI w) = some (upd A8 w o6, upd A9 w o7, upd A12 w (nI 0)) := by
  unfold pX10_replace_w0
  simp (disch := omega) only [n_lit, nI_add, nI_1, n_cl, gck_in, gck_t, gck_T, ↓gnm_e, gbd_s, ↓reduceIte, n_leT, n_leF, n_ltT, n_ltF, n_eqT, n_eqF, Nat.add_zero, Nat.zero_add, c_has h10 hw]
/-- worth, late, pay: put out where q -/
def OUT (q : Nat → Bool) (o6 o7 : Int32) (A8 A9 A12 B8 B9 B12 : Nat → Int32) : Prop := ∀ w, w < 10 → B8 w = (if q w = true then o6 else A8 w) ∧ B9 w = (if q w = true then o7 else A9 w) ∧ B12 w = (if q w = true then nI 0 else A12 w)
theorem OUT_put {q q' : Nat → Bool} {o6 o7 : Int32} {A8 A9 A12 B8 B9 B12 : Nat → Int32} {x : Nat} (h : OUT q o6 o7 A8 A9 A12 B8 B9 B12) (hx : q' x = true) (hq : ∀ w, w ≠ x → q' w = q w) : OUT q' o6 o7 A8 A9 A12 (upd B8 x o6) (upd B9 x o7) (upd B12 x (nI 0)) := fun w hw => by
  by_cases e : w = x
  · subst e; rw [if_pos hx, if_pos hx, if_pos hx]; exact ⟨pk_us, pk_us, pk_us⟩
  · rw [hq w e, pk_un e, pk_un e, pk_un e]; exact h w hw
theorem OUT_cg {q q' : Nat → Bool} {o6 o7 : Int32} {A8 A9 A12 B8 B9 B12 : Nat → Int32} (h : OUT q o6 o7 A8 A9 A12 B8 B9 B12) (hq : ∀ w, w < 10 → q' w = q w) : OUT q' o6 o7 A8 A9 A12 B8 B9 B12 := fun w hw => by
  rw [hq w hw]; exact h w hw
theorem c_byg (h10 : W ≤ 10) {o6 o7 : Int32} {A8 A9 A12 g0 : Nat → Int32} : ∀ k n x : Nat, ∀ B8 B9 B12 : Nat → Int32, x + k = W → k < n → OUT (fun w => decide (w < x) && decide (g0 w = nI 1)) o6 o7 A8 A9 A12 B8 B9 B12 → ∃ D8 D9 D12, pX11_outByGrade_w0_2 (nI W) o6 o7 g0 n B8 B9 B12 (nI x) = some (D8, D9, D12) ∧ OUT (fun w => decide (w < W) && decide (g0 w = nI 1)) o6 o7 A8 A9 A12 D8 D9 D12 := by
  intro k
  induction k with
  | zero =>
    intro n x B8 B9 B12 e hn hO
    obtain ⟨n, rfl⟩ : ∃ j, n = j + 1 := ⟨n - 1, by omega⟩
    have e2 : x = W := by omega
    subst e2
    exact ⟨B8, B9, B12, by simp (disch := omega) only [pX11_outByGrade_w0_2, n_lit, nI_add, nI_1, n_cl, gck_in, gck_t, gck_T, ↓gnm_e, gbd_s, ↓reduceIte, n_leT, n_leF, n_ltT, n_ltF, n_eqT, n_eqF, Nat.add_zero, Nat.zero_add], hO⟩
  | succ k ih =>
    intro n x B8 B9 B12 e hn hO
    obtain ⟨n, rfl⟩ : ∃ j, n = j + 1 := ⟨n - 1, by omega⟩
    by_cases z : g0 x = nI 1
    · obtain ⟨D8, D9, D12, k1, k2⟩ := ih n (x + 1) (upd B8 x o6) (upd B9 x o7) (upd B12 x (nI 0)) (by omega) (by omega) (OUT_put hO (by simp [z]) (fun w hw => by
        have : (w < x + 1) ↔ (w < x) := ⟨fun z => by omega, fun z => by omega⟩
        simp only [this]))
      refine ⟨D8, D9, D12, ?_, k2⟩
      rw [← k1]
      simp (disch := omega) only [pX11_outByGrade_w0_2, n_lit, nI_add, nI_1, n_cl, gck_in, gck_t, gck_T, ↓gnm_e, gbd_s, ↓reduceIte, n_leT, n_leF, n_ltT, n_ltF, n_eqT, n_eqF, Nat.add_zero, Nat.zero_add, z, c_repl h10 (show x < W by omega)]
    · obtain ⟨D8, D9, D12, k1, k2⟩ := ih n (x + 1) B8 B9 B12 (by omega) (by omega) (OUT_cg hO (fun w hw => by
        by_cases e : w = x
        · subst e; simp [z]
        · have : (w < x + 1) ↔ (w < x) := ⟨fun z => by omega, fun z => by omega⟩
          simp only [this]))
      refine ⟨D8, D9, D12, ?_, k2⟩
      rw [← k1]
      simp (disch := omega) only [pX11_outByGrade_w0_2, n_lit, nI_add, nI_1, n_cl, gck_in, gck_t, gck_T, ↓gnm_e, gbd_s, ↓reduceIte, n_leT, n_leF, n_ltT, n_ltF, n_eqT, n_eqF, Nat.add_zero, Nat.zero_add, z]
theorem c_byl (h10 : W ≤ 10) (hW0 : 0 < W) {o6 o7 : Int32} {A8 A9 A12 : Nat → Int32} (hy : y ≤ 120) {N : Nat} (hN : N ≤ W) : ∀ k n i : Nat, ∀ B8 B9 B12 : Nat → Int32, i + k = N → k < n → OUT (fun w => decide (w < W) && decide (ton (7 * y) W w < i)) o6 o7 A8 A9 A12 B8 B9 B12 → ∃ D8 D9 D12, pX11_outByLot_w0_10 (nI W) (nI y) o6 o7 n B8 B9 B12 (nI N) (nI i) = some (D8, D9, D12) ∧ OUT (fun w => decide (w < W) && decide (ton (7 * y) W w < N)) o6 o7 A8 A9 A12 D8 D9 D12 := by
  intro k
  induction k with
  | zero =>
    intro n i B8 B9 B12 e hn hO
    obtain ⟨n, rfl⟩ : ∃ j, n = j + 1 := ⟨n - 1, by omega⟩
    have e2 : i = N := by omega
    subst e2
    exact ⟨B8, B9, B12, by simp (disch := omega) only [pX11_outByLot_w0_10, n_lit, nI_add, nI_1, n_cl, gck_in, gck_t, gck_T, ↓gnm_e, gbd_s, ↓reduceIte, n_leT, n_leF, n_ltT, n_ltF, n_eqT, n_eqF, Nat.add_zero, Nat.zero_add], hO⟩
  | succ k ih =>
    intro n i B8 B9 B12 e hn hO
    obtain ⟨n, rfl⟩ : ∃ j, n = j + 1 := ⟨n - 1, by omega⟩
    have hm := Nat.mod_lt (7 * y + i) hW0
    have hto := ton_of (y := 7 * y) (n := W) (i := i) (by omega)
    obtain ⟨D8, D9, D12, k1, k2⟩ := ih n (i + 1) (upd B8 ((7 * y + i) % W) o6) (upd B9 ((7 * y + i) % W) o7) (upd B12 ((7 * y + i) % W) (nI 0)) (by omega) (by omega) (OUT_put hO (by simp [hm, hto]) (fun w hw => by
      by_cases hwW : w < W
      · have hne : ton (7 * y) W w ≠ i := fun z => hw (by
          have := ton_to (y := 7 * y) hwW
          rw [z] at this; exact this.symm)
        have : (ton (7 * y) W w < i + 1) ↔ (ton (7 * y) W w < i) := ⟨fun z => by omega, fun z => by omega⟩
        simp only [this]
      · simp [hwW]))
    refine ⟨D8, D9, D12, ?_, k2⟩
    rw [← k1]
    have hrem : nI (7 * y) + nI i - (nI (7 * y) + nI i) / nI W * nI W = nI ((7 * y + i) % W) := by
      rw [nI_add, pk_rem (by omega) hW0 (by omega)]
    have hmul : nI y * nI 7 = nI (7 * y) := by rw [pk_mul, Nat.mul_comm]
    have hrem2 : nI (7 * y + i) - nI (7 * y + i) / nI W * nI W = nI ((7 * y + i) % W) := pk_rem (by omega) hW0 (by omega)
    simp (disch := omega) only [pX11_outByLot_w0_10, n_lit, nI_add, nI_1, n_cl, gck_in, gck_t, gck_T, ↓gnm_e, gbd_s, ↓reduceIte, n_leT, n_leF, n_ltT, n_ltF, n_eqT, n_eqF, Nat.add_zero, Nat.zero_add, gck_nF, hmul, hrem2, c_repl h10 hm]
theorem c_y29 (h10 : W ≤ 10) (hW0 : 0 < W ∨ W = 0) (hy : y ≤ 120) {py way : Nat} (hw4 : way < 4) (hh : hsv F h = true) (h2 : hI F h 2 = nI py) {Cf : Nat → Option Nat} {o1 o6 o7 : Int32} {A10 A11 A8 A9 P12 g0 : Nat → Int32} (hg : ∀ w, w < W → g0 w = yg s way w) (hP : ∀ w, w < 10 → P12 w = s (21 + w)) : ∀ k n x : Nat, ∀ A12 : Nat → Int32, ∀ (gs : Int32) (g1 g2 g3 g5 : Nat → Int32), x + k = W → k < n → (∀ w, w < 10 → A12 w = if w < x then yp s py way w else s (21 + w)) → ∃ D8 D9 D12, pX11_goYear_w0_29 F (nI W) o1 o6 o7 A10 A11 h Cf n (nI y) A8 A9 A12 gs g0 g1 g2 g3 g5 (nI way) (nI (kn (y1 s way) x)) (nI x) = some (nI (yt s W way), nI (y + 1), D8, D9, D12, gs, g0, g1, g2, g3, g5) ∧ OUT (fun w => decide (w < W) && yo s W y way w) o6 o7 A8 A9 (fun w => if w < W then yp s py way w else s (21 + w)) D8 D9 D12 := by
  have hynW : yn s W way ≤ W := kn_le _ _
  intro k
  induction k with
  | zero =>
    intro n x A12 gs g1 g2 g3 g5 e hn hp
    obtain ⟨n, rfl⟩ : ∃ j, n = j + 1 := ⟨n - 1, by omega⟩
    have e2 : x = W := by omega
    subst e2
    have hxx : ¬ (nI x : Int32) < nI x → True := fun _ => trivial
    rw [pX11_goYear_w0_29, if_pos (n_leI.mpr (Int.le_refl _))]
    unfold pX11_goYear_w0_96
    by_cases w1 : way = 1
    · subst w1
      rw [if_pos (show nI 1 = (1 : Int32) from rfl)]
      refine ⟨A8, A9, A12, by rw [nI_1]; rfl, fun w hw => ?_⟩
      have : (decide (w < x) && yo s x y 1 w) = false := by unfold yo; simp
      have hA := hp w hw
      refine ⟨?_, ?_, ?_⟩ <;> simp only [this, Bool.false_eq_true, if_false]
      exact hA
    · rw [if_neg (show ¬ nI way = 1 by rw [n_lit, n_eq (by omega) (by omega)]; exact w1)]
      have hyt : yt s x way = yn s x way := by unfold yt; rw [if_neg w1]
      rw [hyt]
      by_cases w2 : way = 2
      · subst w2
        rw [if_pos (show nI 2 = (2 : Int32) from rfl)]
        by_cases x0 : x = 0
        · subst x0
          refine ⟨A8, A9, A12, ?_, fun w hw => ?_⟩
          · unfold pX11_outByLot_w0
            rw [if_pos (show nI 0 = (0 : Int32) from rfl), gbd_s, nI_1]; rfl
          · have : (decide (w < 0) && yo s 0 y 2 w) = false := by simp
            have hA := hp w hw
            refine ⟨?_, ?_, ?_⟩ <;> simp only [this, Bool.false_eq_true, if_false]
            exact hA
        · obtain ⟨D8, D9, D12, k1, k2⟩ := c_byl (o6 := o6) (o7 := o7) (A8 := A8) (A9 := A9) (A12 := A12) h10 (show 0 < x by omega) hy hynW (yn s x 2) 1000 0 A8 A9 A12 (by omega) (by omega) (fun w hw => by
            have : (decide (w < x) && decide (ton (7 * y) x w < 0)) = false := by simp
            refine ⟨?_, ?_, ?_⟩ <;> simp only [this, Bool.false_eq_true, if_false])
          refine ⟨D8, D9, D12, ?_, fun w hw => ?_⟩
          · unfold pX11_outByLot_w0
            rw [if_neg (show ¬ nI x = 0 by rw [n_lit, n_eq (by omega) (by omega)]; exact x0)]
            rw [show (kn (y1 s 2) x) = yn s x 2 from rfl, show (0 : Int32) = nI 0 from rfl, k1, gbd_s, nI_1]
          · have hq : (decide (w < x) && yo s x y 2 w) = (decide (w < x) && decide (ton (7 * y) x w < yn s x 2)) := by unfold yo; rw [if_pos rfl]
            have hA := hp w hw
            obtain ⟨d1, d2, d3⟩ := k2 w hw
            simp only [hq, ← hA]
            exact ⟨d1, d2, d3⟩
      · rw [if_neg (show ¬ nI way = 2 by rw [n_lit, n_eq (by omega) (by omega)]; exact w2)]
        obtain ⟨D8, D9, D12, k1, k2⟩ := c_byg (o6 := o6) (o7 := o7) (A8 := A8) (A9 := A9) (A12 := A12) (g0 := g0) h10 x 1000 0 A8 A9 A12 (by omega) (by omega) (fun w hw => by
          have : (decide (w < 0) && decide (g0 w = nI 1)) = false := by simp
          refine ⟨?_, ?_, ?_⟩ <;> simp only [this, Bool.false_eq_true, if_false])
        refine ⟨D8, D9, D12, ?_, fun w hw => ?_⟩
        · unfold pX11_outByGrade_w0
          rw [show (0 : Int32) = nI 0 from rfl, k1, gbd_s, nI_1]; rfl
        · have hq : (decide (w < x) && yo s x y way w) = (decide (w < x) && decide (g0 w = nI 1)) := by
            unfold yo
            rw [if_neg w2]
            by_cases hwx : w < x
            · rw [hg w hwx]; unfold y1; simp [w1]
            · simp [hwx]
          have hA := hp w hw
          obtain ⟨d1, d2, d3⟩ := k2 w hw
          simp only [hq, ← hA]
          exact ⟨d1, d2, d3⟩
  | succ k ih =>
    intro n x A12 gs g1 g2 g3 g5 e hn hp
    obtain ⟨n, rfl⟩ : ∃ j, n = j + 1 := ⟨n - 1, by omega⟩
    have hxW : x < W := by omega
    have hax := hp x (by omega)
    rw [if_neg (Nat.lt_irrefl x)] at hax
    have hgx := hg x hxW
    have hv : (if s (21 + x) + nI py * yg s way x < nI 9999 then s (21 + x) + nI py * yg s way x else nI 9999) = yp s py way x := by
      unfold yp
      by_cases z : s (21 + x) + nI py * yg s way x < nI 9999
      · rw [if_pos z, if_pos (by rw [n_ltI] at z; rw [n_leI]; omega)]
      · rw [if_neg z]
        by_cases z2 : s (21 + x) + nI py * yg s way x ≤ nI 9999
        · rw [if_pos z2, n_eqI]
          rw [n_ltI] at z; rw [n_leI] at z2; omega
        · rw [if_neg z2]
    obtain ⟨D8, D9, D12, k1, k2⟩ := ih n (x + 1) (upd A12 x (yp s py way x)) gs g1 g2 g3 g5 (by omega) (by omega) (fun w hw => by
      by_cases ew : w = x
      · subst ew; rw [pk_us, if_pos (by omega)]
      · rw [pk_un ew, hp w hw]
        by_cases z : w < x
        · rw [if_pos z, if_pos (by omega)]
        · rw [if_neg z, if_neg (by omega)])
    refine ⟨D8, D9, D12, ?_, k2⟩
    rw [← k1]
    by_cases z1 : yg s way x = nI 1
    · rw [kn_t (by unfold y1; simp [z1])]
      rw [z1] at hv hgx
      simp (disch := omega) only [pX11_goYear_w0_29, n_lit, nI_add, nI_1, n_cl, gck_in, gck_t, gck_T, ↓gnm_e, gbd_s, ↓reduceIte, n_leT, n_leF, n_ltT, n_ltF, n_eqT, n_eqF, Nat.add_zero, Nat.zero_add, hh, h2, hax, hgx, hv]
    · rw [kn_f (by unfold y1; simp [z1])]
      simp (disch := omega) only [pX11_goYear_w0_29, n_lit, nI_add, nI_1, n_cl, gck_in, gck_t, gck_T, ↓gnm_e, gbd_s, ↓reduceIte, n_leT, n_leF, n_ltT, n_ltF, n_eqT, n_eqF, Nat.add_zero, Nat.zero_add, hh, h2, hax, hgx, hv, z1]
/-- A YEAR: the component -/
theorem c_year (hI : IV s W C y) (hH : HR F h s) (hP : PLF F) {Cf : Nat → Option Nat} (hB : CFS F s C Cf) {A8 A9 A10 A11 A12 : Nat → Int32} (hA : WA s W A8 A9 A10 A11) (hA10 : ∀ w, w < 10 → A8 w = s (1 + w) ∧ A9 w = s (11 + w) ∧ A12 w = s (21 + w)) {way : Nat} (hw4 : way < 4) (gs : Int32) (g0 g1 g2 g3 g5 : Nat → Int32) : ∃ D8 D9 D12 r, pX11_goYear_w0 F (nI W) (nI C) (s 57) (s 58) A10 A11 h Cf (nI y) A8 A9 A12 gs g0 g1 g2 g3 g5 (nI way) = some (nI (yt s W way), nI (y + 1), D8, D9, D12, r) ∧ ∀ t, YR s W y (tl (pX12_told s 2)) way t → ∀ w, w < 10 → D8 w = t (1 + w) ∧ D9 w = t (11 + w) ∧ D12 w = t (21 + w) := by
  have h10 := hI.2.1
  have hy2 := hI.2.2.2.2.2.1
  obtain ⟨t0, -, -, ⟨t1, t2, -⟩⟩ := hr_tl hH
  have fin : ∀ D8 D9 D12 : Nat → Int32, OUT (fun w => decide (w < W) && yo s W y way w) (s 57) (s 58) A8 A9 (fun w => if w < W then yp s (tl (pX12_told s 2)) way w else s (21 + w)) D8 D9 D12 → ∀ t, YR s W y (tl (pX12_told s 2)) way t → ∀ w, w < 10 → D8 w = t (1 + w) ∧ D9 w = t (11 + w) ∧ D12 w = t (21 + w) := fun D8 D9 D12 hO t ht w hw => by
    obtain ⟨a1, a2, a3⟩ := hO w hw
    obtain ⟨b1, b2, b3⟩ := ht.2.1 w hw
    obtain ⟨c1, c2, c3⟩ := hA10 w hw
    rw [a1, a2, a3, b1, b2, b3, c1, c2]
    have hc : ((decide (w < W) && yo s W y way w) = true) = (w < W ∧ yo s W y way w = true) := by simp
    simp only [hc]
    exact ⟨trivial, trivial, trivial⟩
  unfold pX11_goYear_w0
  by_cases w3 : way = 3
  · obtain ⟨fs, f0, f1, f2, f3, k1, k2⟩ := c_dues hI hH hP (fun w hw => (hA w hw).1) gs g0 g1 g2 g3
    obtain ⟨D8, D9, D12, k3, k4⟩ := c_y29 (F := F) (h := h) (s := s) (y := y) (Cf := Cf) (o1 := nI C) (o6 := s 57) (o7 := s 58) (A10 := A10) (A11 := A11) (A8 := A8) (A9 := A9) (P12 := A12) (g0 := f0) h10 (by omega) hy2 hw4 t0 t2 (fun w hw => by unfold yg; rw [if_pos w3]; exact k2 w hw) (fun w hw => (hA10 w hw).2.2) W 1000 0 A12 fs f1 f2 f3 g5 (by omega) (by omega) (fun w hw => by rw [if_neg (Nat.not_lt_zero _)]; exact (hA10 w hw).2.2)
    refine ⟨D8, D9, D12, (fs, f0, f1, f2, f3, g5), ?_, fin D8 D9 D12 k4⟩
    rw [if_pos (by rw [w3]; rfl), k1, gbd_s]
    exact k3
  · obtain ⟨fs, f0, f1, f2, f3, f5, k1, k2⟩ := c_gall hI hH hB hA gs g0 g1 g2 g3 g5
    obtain ⟨D8, D9, D12, k3, k4⟩ := c_y29 (F := F) (h := h) (s := s) (y := y) (Cf := Cf) (o1 := nI C) (o6 := s 57) (o7 := s 58) (A10 := A10) (A11 := A11) (A8 := A8) (A9 := A9) (P12 := A12) (g0 := f0) h10 (by omega) hy2 hw4 t0 t2 (fun w hw => by unfold yg; rw [if_neg w3]; exact k2 w hw) (fun w hw => (hA10 w hw).2.2) W 1000 0 A12 fs f1 f2 f3 f5 (by omega) (by omega) (fun w hw => by rw [if_neg (Nat.not_lt_zero _)]; exact (hA10 w hw).2.2)
    refine ⟨D8, D9, D12, (fs, f0, f1, f2, f3, f5), ?_, fin D8 D9 D12 k4⟩
    rw [if_neg (show ¬ nI way = 3 by rw [n_lit, n_eq (by omega) (by omega)]; exact w3), k1, gbd_s]
    exact k3
end YEAR
