/-! PURE SIDE: swap, the component -/
section SWAP
variable {F : gF} {o : Nat → Int32} {A : Nat → Nat → Int32} {Cf : Nat → Option Nat} {h : Nat} {s : Nat → Int32} {W C y Hn R T : Nat}
/-- the trial world shows the row -/
def TRW (F : gF) (s : Nat → Int32) (W C : Nat) (b8 b9 b10 b11 : Nat → Int32) (C1 : Nat → Option Nat) : Prop := (∀ w, w < 10 → b8 w = s (1 + w) ∧ b9 w = s (11 + w) ∧ b10 w = s (31 + w) ∧ b11 w = s (41 + w)) ∧ CFS F s C C1
theorem c_exch {b10 b11 : Nat → Int32} {w x : Nat} (hw : w < 10) (hx : x < 10) (hwx : w ≠ x) : pX10_exchange_w1 b10 b11 (nI w) (nI x) = some (upd (upd b10 w (b10 x)) x (b10 w), upd (upd b11 w (b11 x)) x (b11 w)) := by
  unfold pX10_exchange_w1
  simp (disch := omega) only [n_lit, nI_add, nI_1, n_cl, gck_in, gck_t, gck_T, ↓gnm_e, gbd_s, ↓reduceIte, n_leT, n_leF, n_ltT, n_ltF, n_eqT, n_eqF, Nat.add_zero, Nat.zero_add]
theorem exch_at {b : Nat → Int32} {f : Nat → Int32} {w x : Nat} (hwx : w ≠ x) (hb : ∀ z, z < 10 → b z = f z) (hw : w < 10) (hx : x < 10) : ∀ z, z < 10 → upd (upd b w (b x)) x (b w) z = if z = w then f x else if z = x then f w else f z := by
  intro z hz
  by_cases e1 : z = w
  · subst e1; rw [if_pos rfl, pk_un hwx, pk_us, hb x hx]
  · rw [if_neg e1]
    by_cases e2 : z = x
    · subst e2; rw [if_pos rfl, pk_us, hb w hw]
    · rw [if_neg e2, pk_un e2, pk_un e1, hb z hz]
theorem c_gain2 (hS : SV s W C y Hn R T) (hH : HR F h s) {b8 b9 b10 b11 bfr : Nat → Int32} {C1 : Nat → Option Nat} (hT : TRW F s W C b8 b9 b10 b11 C1) (hbf : ∀ w, w < W → bfr w = GS s w) (gs : Int32) (g0 g1 g2 g3 g5 : Nat → Int32) {w x : Nat} (hw : w < 10) (hx : x < 10) (hwx : w ≠ x) : ∃ c10 c11 fs f0 f1 f2 f3 f5, pX11_bothGain F (nI W) (nI C) (nI y) b8 b9 h C1 bfr b10 b11 gs g0 g1 g2 g3 g5 (nI w) (nI x) = some (if gn s W w x = true then nI 1 else nI 0, c10, c11, fs, f0, f1, f2, f3, f5) ∧ TRW F s W C b8 b9 c10 c11 C1 := by
  have hI := hS.1
  have h10 := hI.2.1
  have h4 := hI.2.2.2.1
  unfold pX11_bothGain
  rw [ev_X10_hasWorker_w1, ev_X1_gradeHad_w1]
  by_cases hwW : w < W
  · have z1 := c_has h10 hwW
    by_cases hxW : x < W
    · have z2 := c_has h10 hxW
      obtain ⟨t8, t9, t10, t11⟩ := hT.1 w hw
      obtain ⟨u8, u9, u10, u11⟩ := hT.1 x hx
      by_cases ec : s (31 + w) = s (31 + x)
      · have hg : gn s W w x = false := by unfold gn; simp [ec]
        exact ⟨b10, b11, gs, g0, g1, g2, g3, g5, by rw [hg]; simp (disch := omega) only [n_lit, nI_add, nI_1, n_cl, gck_in, gck_t, gck_T, ↓gnm_e, gbd_s, ↓reduceIte, n_leT, n_leF, n_ltT, n_ltF, n_eqT, n_eqF, Nat.add_zero, Nat.zero_add, z1, z2, t10, u10, ec, Bool.false_eq_true], hT⟩
      · have q1 := c_exch (b10 := b10) (b11 := b11) hw hx hwx
        obtain ⟨p1, p2, p3, p4, hag⟩ := sx_at (s := s) hw hx hwx
        have a10 := exch_at (b := b10) (f := fun z => s (31 + z)) hwx (fun z hz => (hT.1 z hz).2.2.1) hw hx
        have a11 := exch_at (b := b11) (f := fun z => s (41 + z)) hwx (fun z hz => (hT.1 z hz).2.2.2) hw hx
        have hI2 := iv_sx hI hwW hxW hwx
        have hH2 := hr_ag (F := F) (h := h) (t := sx s w x) (hag 56 (by omega) (by omega) (by omega) (by omega)) (fun k hk => hag k (by omega) (by omega) (by omega) (by omega)) (sv_56 hS) hH
        have hC2 : CFS F (sx s w x) C C1 := cfs_work h4 (fun k hk => hag k (by omega) (by omega) (by omega) (by omega)) (fun _ _ => rfl) hT.2
        have hA2 : WA (sx s w x) W b8 b9 (upd (upd b10 w (b10 x)) x (b10 w)) (upd (upd b11 w (b11 x)) x (b11 w)) := fun z hz => by
          obtain ⟨v8, v9, v10, v11⟩ := hT.1 z (by omega)
          rw [a10 z (by omega), a11 z (by omega), hag (1 + z) (by omega) (by omega) (by omega) (by omega), hag (11 + z) (by omega) (by omega) (by omega) (by omega)]
          refine ⟨v8, v9, ?_, ?_⟩
          · by_cases e1 : z = w
            · subst e1; rw [if_pos rfl, p1]
            · rw [if_neg e1]
              by_cases e2 : z = x
              · subst e2; rw [if_pos rfl, p3]
              · rw [if_neg e2, hag _ (by omega) (by omega) (by omega) (by omega)]
          · by_cases e1 : z = w
            · subst e1; rw [if_pos rfl, p2]
            · rw [if_neg e1]
              by_cases e2 : z = x
              · subst e2; rw [if_pos rfl, p4]
              · rw [if_neg e2, hag _ (by omega) (by omega) (by omega) (by omega)]
        have q2 := c_exch (b10 := upd (upd b10 w (b10 x)) x (b10 w)) (b11 := upd (upd b11 w (b11 x)) x (b11 w)) hw hx hwx
        have hT2 : TRW F s W C b8 b9 (upd (upd (upd (upd b10 w (b10 x)) x (b10 w)) w (upd (upd b10 w (b10 x)) x (b10 w) x)) x (upd (upd b10 w (b10 x)) x (b10 w) w)) (upd (upd (upd (upd b11 w (b11 x)) x (b11 w)) w (upd (upd b11 w (b11 x)) x (b11 w) x)) x (upd (upd b11 w (b11 x)) x (b11 w) w)) C1 := by
          have c10 := exch_at (b := upd (upd b10 w (b10 x)) x (b10 w)) hwx a10 hw hx
          have c11 := exch_at (b := upd (upd b11 w (b11 x)) x (b11 w)) hwx a11 hw hx
          refine ⟨fun z hz => ?_, hT.2⟩
          obtain ⟨v8, v9, v10, v11⟩ := hT.1 z hz
          rw [c10 z hz, c11 z hz]
          refine ⟨v8, v9, ?_, ?_⟩
          · by_cases e1 : z = w
            · subst e1; simp only [if_true, Ne.symm hwx, if_false]
            · by_cases e2 : z = x
              · subst e2; simp only [e1, if_false, if_true]
              · simp only [e1, e2, if_false]
          · by_cases e1 : z = w
            · subst e1; simp only [if_true, Ne.symm hwx, if_false]
            · by_cases e2 : z = x
              · subst e2; simp only [e1, if_false, if_true]
              · simp only [e1, e2, if_false]
        have ec2 : ¬ b10 w = b10 x := by rw [t10, u10]; exact ec
        obtain ⟨fs, f0, f1, f2, f3, f5, k1⟩ := c_ghad hI2 hH2 hC2 hA2 gs g0 g1 g2 g3 g5 hwW
        have hbw := hbf w hwW
        have hbx := hbf x hxW
        by_cases gw : GS (sx s w x) w ≤ GS s w
        · have hg : gn s W w x = false := by unfold gn; simp [n_nlt.mpr gw]
          exact ⟨_, _, fs, f0, f1, f2, f3, f5, by rw [hg]; simp (disch := omega) only [n_lit, nI_add, nI_1, n_cl, gck_in, gck_t, gck_T, ↓gnm_e, gbd_s, ↓reduceIte, n_leT, n_leF, n_ltT, n_ltF, n_eqT, n_eqF, Nat.add_zero, Nat.zero_add, z1, z2, ec2, q1, k1, hbw, gw, q2, Bool.false_eq_true], hT2⟩
        · obtain ⟨fs', f0', f1', f2', f3', f5', k2⟩ := c_ghad hI2 hH2 hC2 hA2 fs f0 f1 f2 f3 f5 hxW
          by_cases gx : GS (sx s w x) x ≤ GS s x
          · have hg : gn s W w x = false := by unfold gn; simp [n_nlt.mpr gx]
            exact ⟨_, _, fs', f0', f1', f2', f3', f5', by rw [hg]; simp (disch := omega) only [n_lit, nI_add, nI_1, n_cl, gck_in, gck_t, gck_T, ↓gnm_e, gbd_s, ↓reduceIte, n_leT, n_leF, n_ltT, n_ltF, n_eqT, n_eqF, Nat.add_zero, Nat.zero_add, z1, z2, ec2, q1, k1, hbw, gw, k2, hbx, gx, q2, Bool.false_eq_true], hT2⟩
          · have hg : gn s W w x = true := by unfold gn; simp [hwW, hxW, ec, n_nle.mp gx, n_nle.mp gw]
            exact ⟨_, _, fs', f0', f1', f2', f3', f5', by rw [hg]; simp (disch := omega) only [n_lit, nI_add, nI_1, n_cl, gck_in, gck_t, gck_T, ↓gnm_e, gbd_s, ↓reduceIte, n_leT, n_leF, n_ltT, n_ltF, n_eqT, n_eqF, Nat.add_zero, Nat.zero_add, z1, z2, ec2, q1, k1, hbw, gw, k2, hbx, gx, q2], hT2⟩
    · have z2 := has_f (W := W) (x := nI x) (Or.inr (by rw [n_leT (by omega) (by omega)]; trivial))
      exact ⟨b10, b11, gs, g0, g1, g2, g3, g5, by rw [z1, gbd_s, ib1, z2, gbd_s, ib0, gn_x (by omega)]; rfl, hT⟩
  · have z1 := has_f (W := W) (x := nI w) (Or.inr (by rw [n_leT (by omega) (by omega)]; trivial))
    exact ⟨b10, b11, gs, g0, g1, g2, g3, g5, by rw [z1, gbd_s, ib0, gn_w (by omega)]; rfl, hT⟩
theorem c_sw72 (hS : SV s W C y Hn R T) (hH : HR F h s) {bfr : Nat → Int32} (hbf : ∀ w, w < W → bfr w = GS s w) {k59 : Int32 → Int32 → Int32 → Int32 → Int32 → Int32 → Int32 → Int32 → (Nat → Int32) → (Nat → Int32) → (Nat → Int32) → (Nat → Int32) → (Nat → Int32) → (Nat → Int32) → (Nat → Int32) → (Nat → Int32) → (Nat → Int32) → Nat → (Nat → Option Nat) → Int32 → (Nat → Int32) → (Nat → Int32) → (Nat → Int32) → (Nat → Int32) → (Nat → Int32) → (Nat → Int32) → Int32 → Int32 → Int32 → Int32 → Option (Int32 × Int32 × Int32 × Int32 × Int32 × Int32 × Int32 × Int32 × Int32 × ((Nat → Int32)) × ((Nat → Int32)) × ((Nat → Int32)) × ((Nat → Int32)) × ((Nat → Int32)) × ((Nat → Int32)) × ((Nat → Int32)) × ((Nat → Int32)) × ((Nat → Int32)) × Nat × ((Nat → Option Nat)) × Int32 × ((Nat → Int32)) × ((Nat → Int32)) × ((Nat → Int32)) × ((Nat → Int32)) × ((Nat → Int32)) × ((Nat → Int32)))} {p2 p3 p4 p6 p7 : Int32} {b8 b9 b12 b14 b15 b16 b17 : Nat → Int32} {C1 : Nat → Option Nat} {x1 : Int32} {w : Nat} (hw : w < 10) : ∀ k n x : Nat, ∀ (b10 b11 : Nat → Int32) (gs : Int32) (g0 g1 g2 g3 g5 : Nat → Int32) (p : Nat × Int32), x + k = 10 → k < n → w < x → p.1 + k ≤ 1000 → TRW F s W C b8 b9 b10 b11 C1 → ∃ c10 c11 fs f0 f1 f2 f3 f5, pX11_swap_72 F k59 (o 0) (o 1) (o 2) (o 3) (o 4) (o 5) (o 6) (o 7) (A 8) (A 9) (A 10) (A 11) (A 12) (A 14) (A 15) (A 16) (A 17) h Cf n (nI W) (nI C) p2 p3 p4 (nI y) p6 p7 b8 b9 b10 b11 b12 b14 b15 b16 b17 h C1 gs g0 g1 g2 g3 g5 bfr x1 (nI p.1) p.2 (nI w) (nI x) = k59 (nI W) (nI C) p2 p3 p4 (nI y) p6 p7 b8 b9 c10 c11 b12 b14 b15 b16 b17 h C1 fs f0 f1 f2 f3 f5 bfr x1 (nI (spI s W w k x p).1) (spI s W w k x p).2 (nI (w + 1)) ∧ TRW F s W C b8 b9 c10 c11 C1 := by
  intro k
  induction k with
  | zero =>
    intro n x b10 b11 gs g0 g1 g2 g3 g5 p e hn hwx hp2 hT
    obtain ⟨n, rfl⟩ : ∃ j, n = j + 1 := ⟨n - 1, by omega⟩
    have e2 : x = 10 := by omega
    subst e2
    exact ⟨b10, b11, gs, g0, g1, g2, g3, g5, by rw [pX11_swap_72, if_pos (by decide), nI_1]; rfl, hT⟩
  | succ k ih =>
    intro n x b10 b11 gs g0 g1 g2 g3 g5 p e hn hwx hp2 hT
    obtain ⟨n, rfl⟩ : ∃ j, n = j + 1 := ⟨n - 1, by omega⟩
    obtain ⟨c10, c11, fs, f0, f1, f2, f3, f5, k1, k2⟩ := c_gain2 hS hH hT hbf gs g0 g1 g2 g3 g5 hw (show x < 10 by omega) (show w ≠ x by omega)
    have hx10 : ¬ (10 : Int32) ≤ nI x := by rw [n_lit, n_leF (by omega) (by omega)]; exact fun z => z
    by_cases hg : gn s W w x = true
    · rw [if_pos hg] at k1
      by_cases hp : p.1 = 0
      · obtain ⟨d10, d11, ds, d0, d1, d2, d3, d5, k3, k4⟩ := ih n (x + 1) c10 c11 fs f0 f1 f2 f3 f5 (p.1 + 1, nI (10 * w + x)) (by omega) (by omega) (by omega) (by simp; omega) k2
        refine ⟨d10, d11, ds, d0, d1, d2, d3, d5, ?_, k4⟩
        rw [spI, hg, show sst true w x p = (p.1 + 1, nI (10 * w + x)) from by unfold sst; rw [if_pos rfl, if_pos hp], ← k3]
        rw [pX11_swap_72, if_neg hx10, k1, gbd_s, ib1, if_pos (by rw [hp]; rfl), gnm_e, nI_1, nI_1, n_lit, pk_mul, nI_add]
      · obtain ⟨d10, d11, ds, d0, d1, d2, d3, d5, k3, k4⟩ := ih n (x + 1) c10 c11 fs f0 f1 f2 f3 f5 (p.1 + 1, p.2) (by omega) (by omega) (by omega) (by simp; omega) k2
        refine ⟨d10, d11, ds, d0, d1, d2, d3, d5, ?_, k4⟩
        rw [spI, hg, show sst true w x p = (p.1 + 1, p.2) from by unfold sst; rw [if_pos rfl, if_neg hp], ← k3]
        rw [pX11_swap_72, if_neg hx10, k1, gbd_s, ib1, if_neg (by rw [n_lit, n_eqF (by omega) (by omega) (by omega)]; exact fun z => z), nI_1, nI_1]
    · rw [if_neg hg] at k1
      obtain ⟨d10, d11, ds, d0, d1, d2, d3, d5, k3, k4⟩ := ih n (x + 1) c10 c11 fs f0 f1 f2 f3 f5 p (by omega) (by omega) (by omega) (by omega) k2
      refine ⟨d10, d11, ds, d0, d1, d2, d3, d5, ?_, k4⟩
      rw [spI, show gn s W w x = false from by simpa using hg, show sst false w x p = p from rfl, ← k3]
      rw [pX11_swap_72, if_neg hx10, k1, gbd_s, ib0, nI_1]
theorem c_sw59 (hS : SV s W C y Hn R T) (hH : HR F h s) {bfr : Nat → Int32} (hbf : ∀ w, w < W → bfr w = GS s w) {p2 p3 p4 p6 p7 : Int32} {b8 b9 b12 b14 b15 b16 b17 : Nat → Int32} {C1 : Nat → Option Nat} {x1 : Int32} (hx1 : x1 = nI 0 ∨ x1 = nI 1) : ∀ k n w : Nat, ∀ (b10 b11 : Nat → Int32) (gs : Int32) (g0 g1 g2 g3 g5 : Nat → Int32) (p : Nat × Int32), w + k = 10 → k < n → p.1 ≤ 10 * w → FI p → TRW F s W C b8 b9 b10 b11 C1 → ∃ r, pX11_swap_59 F (o 0) (o 1) (o 2) (o 3) (o 4) (o 5) (o 6) (o 7) (A 8) (A 9) (A 10) (A 11) (A 12) (A 14) (A 15) (A 16) (A 17) h Cf n (nI W) (nI C) p2 p3 p4 (nI y) p6 p7 b8 b9 b10 b11 b12 b14 b15 b16 b17 h C1 gs g0 g1 g2 g3 g5 bfr x1 (nI p.1) p.2 (nI w) = some (if x1 = nI 0 then nI (spO s W k w p).1 else (spO s W k w p).2, r) := by
  intro k
  induction k with
  | zero =>
    intro n w b10 b11 gs g0 g1 g2 g3 g5 p e hn hp2 hp hT
    obtain ⟨n, rfl⟩ : ∃ j, n = j + 1 := ⟨n - 1, by omega⟩
    have e2 : w = 10 := by omega
    subst e2
    rcases hx1 with z | z <;> subst z
    · exact ⟨_, by rw [pX11_swap_59, if_pos (by decide), ib0, if_pos rfl]; rfl⟩
    · exact ⟨_, by rw [pX11_swap_59, if_pos (by decide), ib1, if_neg (by decide)]; rfl⟩
  | succ k ih =>
    intro n w b10 b11 gs g0 g1 g2 g3 g5 p e hn hp2 hp hT
    obtain ⟨n, rfl⟩ : ∃ j, n = j + 1 := ⟨n - 1, by omega⟩
    have hw10 : ¬ (10 : Int32) ≤ nI w := by rw [n_lit, n_leF (by omega) (by omega)]; exact fun z => z
    obtain ⟨c10, c11, fs, f0, f1, f2, f3, f5, k1, k2⟩ := c_sw72 (o := o) (A := A) (Cf := Cf) hS hH hbf (k59 := pX11_swap_59 F (o 0) (o 1) (o 2) (o 3) (o 4) (o 5) (o 6) (o 7) (A 8) (A 9) (A 10) (A 11) (A 12) (A 14) (A 15) (A 16) (A 17) h Cf n) (p2 := p2) (p3 := p3) (p4 := p4) (p6 := p6) (p7 := p7) (b12 := b12) (b14 := b14) (b15 := b15) (b16 := b16) (b17 := b17) (x1 := x1) (w := w) (by omega) (9 - w) 1000 (w + 1) b10 b11 gs g0 g1 g2 g3 g5 p (by omega) (by omega) (by omega) (by omega) hT
    obtain ⟨q1, q2⟩ := spI_FI (s := s) (W := W) (w := w) (by omega) (9 - w) (w + 1) p (by omega) hp
    obtain ⟨r, k3⟩ := ih n (w + 1) c10 c11 fs f0 f1 f2 f3 f5 (spI s W w (9 - w) (w + 1) p) (by omega) (by omega) (by omega) q1 k2
    refine ⟨r, ?_⟩
    rw [spO, ← k3, ← k1, pX11_swap_59, if_neg hw10, gnm_e, nI_1]
theorem m_swap (hS : SV s W C y Hn R T) (hR : WR F o A Cf h s) (p0 p1 p2 p3 p4 p5 p6 p7 : Int32) (b8 b9 b10 b11 b12 b14 b15 b16 b17 : Nat → Int32) (h1 : Nat) (C1 : Nat → Option Nat) (gs : Int32) (g0 g1 g2 g3 g5 : Nat → Int32) (bfr a10 a11 a12 a13 a15 : Nat → Int32) (x1 : Int32) : ∃ v r r', pX11_swap F (o 0) (o 1) (o 2) (o 3) (o 4) (o 5) (o 6) (o 7) (A 8) (A 9) (A 10) (A 11) (A 12) (A 14) (A 15) (A 16) (A 17) h Cf p0 p1 p2 p3 p4 p5 p6 p7 b8 b9 b10 b11 b12 b14 b15 b16 b17 h1 C1 gs g0 g1 g2 g3 g5 bfr x1 = some (v, r) ∧ pX12_swap s a10 a11 a12 a13 a15 x1 = some (v, s, r') := by
  have hI := hS.1
  obtain ⟨hW, h10, hC, h4, hy, hy2, hV, hK⟩ := id hI
  obtain ⟨e0, e1, -, -, -, e5⟩ := wr_o hS hR
  have hH := wr_hr hR
  have hA := wr_wa hS hR
  have hcf := wr_cfs hS hR
  unfold pX11_swap pX12_swap
  rcases x_in x1 (n := 1) (by decide) with ⟨j, hj, rfl⟩ | hx
  · have hin : pX12_in (nI j) 0 1 = some (nI 1) := in_nT (a := 0) (n := 1) (by omega) hj (by decide)
    have hj2 : nI j = nI 0 ∨ nI j = nI 1 := by rcases (show j = 0 ∨ j = 1 by omega) with e | e <;> subst e <;> simp
    obtain ⟨fs, f0, f1, f2, f3, f5, k1, k2⟩ := c_gall hI hH hcf hA gs g0 g1 g2 g3 g5
    obtain ⟨C2, k3, k4⟩ := c_bec hS hR p0 p1 p2 p3 p4 p5 p6 p7 b8 b9 b10 b11 b12 b14 b15 b16 b17 h1 C1
    obtain ⟨r, k5⟩ := c_sw59 (o := o) (A := A) (Cf := Cf) hS hH (bfr := va_cpy f0 bfr 0 0 10) (fun w hw => by rw [cpy_at (by omega)]; exact k2 w hw) (p2 := o 2) (p3 := o 3) (p4 := o 4) (p6 := o 6) (p7 := o 7) (b8 := va_cpy (A 8) b8 0 0 10) (b9 := va_cpy (A 9) b9 0 0 10) (b12 := va_cpy (A 12) b12 0 0 10) (b14 := va_cpy (A 14) b14 0 0 20) (b15 := va_cpy (A 15) b15 0 0 20) (b16 := va_cpy (A 16) b16 0 0 20) (b17 := va_cpy (A 17) b17 0 0 100) (C1 := C2) hj2 10 1000 0 (va_cpy (A 10) b10 0 0 10) (va_cpy (A 11) b11 0 0 10) fs f0 f1 f2 f3 f5 (0, -nI 5) (by omega) (by omega) (by simp) (Or.inl ⟨rfl, rfl⟩) ⟨fun w hw => by
      obtain ⟨p8, p9, p10, p11, -⟩ := hR.2.1 w hw
      rw [cpy_at hw, cpy_at hw, cpy_at hw, cpy_at hw]; exact ⟨p8, p9, p10, p11⟩, fun c hc => by
      obtain ⟨b, b1, b2⟩ := hcf c hc
      exact ⟨b, (k4 c (by omega)).trans b1, b2⟩⟩
    obtain ⟨r', k6⟩ := r_sw19 hS hR hj2 W 1000 0 a10 a11 a12 a13 a15 (0, -nI 5) (by omega) (by omega) (Or.inl ⟨rfl, rfl⟩) (by simp)
    refine ⟨if nI j = nI 0 then nI (spO s W 10 0 (0, -nI 5)).1 else (spO s W 10 0 (0, -nI 5)).2, r, r', ?_, ?_⟩
    · rw [if_neg (by rw [n_lit, n_ltF (by omega) (by omega)]; exact fun z => z), if_pos (by rw [n_lit, n_leT (by omega) (by omega)]; trivial), e0, e1, e5, k1, gbd_s, gnm_e, ← e0, ← e1, ← e5, k3, gbd_s, e0, e1, e5]
      rw [e0, e1, e5] at k5
      exact k5
    · rw [hin, gbd_s, ib1]
      exact k6
  · have hin : pX12_in x1 0 1 = some (nI 0) := in_f hx
    have hsel : ∀ {α : Type} (p q : α), (if x1 < 0 then p else if x1 ≤ 1 then q else p) = p := fun p q => by
      by_cases w0 : x1 < 0
      · rw [if_pos w0]
      · rw [if_neg w0, if_neg (show ¬ x1 ≤ 1 from n_nle.mpr (hx.resolve_left w0))]
    exact ⟨-1, _, _, by rw [hsel], by rw [hin, gbd_s, ib0]⟩
end SWAP
