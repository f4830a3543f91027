/-! PURE SIDE: swap -/
def sx (s : Nat → Int32) (w x : Nat) : Nat → Int32 := upd (upd (upd (upd s (31 + w) (s (31 + x))) (41 + w) (s (41 + x))) (31 + x) (s (31 + w))) (41 + x) (s (41 + w))
theorem sx_at {s : Nat → Int32} {w x : Nat} (hw : w < 10) (hx : x < 10) (hwx : w ≠ x) : sx s w x (31 + w) = s (31 + x) ∧ sx s w x (41 + w) = s (41 + x) ∧ sx s w x (31 + x) = s (31 + w) ∧ sx s w x (41 + x) = s (41 + w) ∧ ∀ k, k ≠ 31 + w → k ≠ 41 + w → k ≠ 31 + x → k ≠ 41 + x → sx s w x k = s k := by
  unfold sx
  refine ⟨?_, ?_, ?_, ?_, fun k h1 h2 h3 h4 => ?_⟩
  · rw [pk_un (by omega), pk_un (by omega), pk_un (by omega), pk_us]
  · rw [pk_un (by omega), pk_un (by omega), pk_us]
  · rw [pk_un (by omega), pk_us]
  · rw [pk_us]
  · rw [pk_un h4, pk_un h3, pk_un h2, pk_un h1]
theorem sx_sx {s : Nat → Int32} {w x : Nat} (hw : w < 10) (hx : x < 10) (hwx : w ≠ x) : sx (sx s w x) w x = s := by
  obtain ⟨p1, p2, p3, p4, p5⟩ := sx_at (s := s) hw hx hwx
  obtain ⟨q1, q2, q3, q4, q5⟩ := sx_at (s := sx s w x) hw hx hwx
  funext k
  by_cases h1 : k = 31 + w
  · rw [h1, q1, p3]
  · by_cases h2 : k = 41 + w
    · rw [h2, q2, p4]
    · by_cases h3 : k = 31 + x
      · rw [h3, q3, p1]
      · by_cases h4 : k = 41 + x
        · rw [h4, q4, p2]
        · rw [q5 k h1 h2 h3 h4, p5 k h1 h2 h3 h4]
theorem r_changes {s : Nat → Int32} {w x : Nat} (hw : w < 10) (hx : x < 10) (hwx : w ≠ x) : pX12_changes s (nI w) (nI x) = some (sx s w x) := by
  unfold pX12_changes sx
  simp (disch := omega) only [n_lit, nI_add, nI_1, n_cl, gck_in, gck_t, gck_T, ↓gnm_e, gbd_s, ↓reduceIte, n_leT, n_leF, n_ltT, n_ltF, n_eqT, n_eqF, Nat.add_zero, Nat.zero_add, pk_un]
def gn (s : Nat → Int32) (W w x : Nat) : Bool := decide (w < W) && (decide (x < W) && (!decide (s (31 + w) = s (31 + x)) && (decide (GS s w < GS (sx s w x) w) && decide (GS s x < GS (sx s w x) x))))
def sst (b : Bool) (w x : Nat) (p : Nat × Int32) : Nat × Int32 := if b = true then (p.1 + 1, if p.1 = 0 then nI (10 * w + x) else p.2) else p
def spI (s : Nat → Int32) (W w : Nat) : Nat → Nat → Nat × Int32 → Nat × Int32
  | 0, _, p => p
  | n + 1, x, p => spI s W w n (x + 1) (sst (gn s W w x) w x p)
def spO (s : Nat → Int32) (W : Nat) : Nat → Nat → Nat × Int32 → Nat × Int32
  | 0, _, p => p
  | n + 1, w, p => spO s W n (w + 1) (spI s W w (9 - w) (w + 1) p)
theorem spI_add {s : Nat → Int32} {W w : Nat} : ∀ a b x : Nat, ∀ p, spI s W w (a + b) x p = spI s W w b (x + a) (spI s W w a x p) := by
  intro a
  induction a with
  | zero => intro b x p; rw [Nat.zero_add]; rfl
  | succ a ih => intro b x p; rw [show a + 1 + b = a + b + 1 from by omega, spI, ih, spI, show x + 1 + a = x + (a + 1) from by omega]
theorem spI_id {s : Nat → Int32} {W w : Nat} : ∀ n x : Nat, ∀ p, (∀ j, x ≤ j → gn s W w j = false) → spI s W w n x p = p := by
  intro n
  induction n with
  | zero => intro x p _; rfl
  | succ n ih =>
    intro x p h
    rw [spI, h x (Nat.le_refl _), ih (x + 1) _ (fun j hj => h j (by omega))]
    rfl
theorem gn_x {s : Nat → Int32} {W w x : Nat} (h : W ≤ x) : gn s W w x = false := by
  unfold gn
  rw [show decide (x < W) = false from by simp; omega]
  simp
theorem gn_w {s : Nat → Int32} {W w x : Nat} (h : W ≤ w) : gn s W w x = false := by
  unfold gn
  rw [show decide (w < W) = false from by simp; omega]
  simp
theorem spI_10 {s : Nat → Int32} {W w : Nat} (h10 : W ≤ 10) {p : Nat × Int32} (hw : w < W) : spI s W w (9 - w) (w + 1) p = spI s W w (W - (w + 1)) (w + 1) p := by
  rw [show 9 - w = (W - (w + 1)) + (10 - W) from by omega, spI_add, spI_id (10 - W) _ _ (fun j hj => gn_x (by omega))]
theorem spO_id {s : Nat → Int32} {W : Nat} : ∀ n w : Nat, ∀ p, W ≤ w → spO s W n w p = p := by
  intro n
  induction n with
  | zero => intro w p _; rfl
  | succ n ih => intro w p h; rw [spO, spI_id _ _ _ (fun j _ => gn_w h), ih (w + 1) p (by omega)]
theorem spO_add {s : Nat → Int32} {W : Nat} : ∀ a b x : Nat, ∀ p, spO s W (a + b) x p = spO s W b (x + a) (spO s W a x p) := by
  intro a
  induction a with
  | zero => intro b x p; rw [Nat.zero_add]; rfl
  | succ a ih => intro b x p; rw [show a + 1 + b = a + b + 1 from by omega, spO, ih, spO, show x + 1 + a = x + (a + 1) from by omega]
/-- what is known of how many and the first -/
def FI (p : Nat × Int32) : Prop := (p.1 = 0 ∧ p.2 = -nI 5) ∨ (0 < p.1 ∧ ∃ f, f < 1000 ∧ p.2 = nI f)
theorem FI_st {b : Bool} {w x : Nat} {p : Nat × Int32} (hw : w < 10) (hx : x < 10) (h : FI p) : FI (sst b w x p) := by
  unfold sst
  by_cases e : b = true
  · rw [if_pos e]
    refine Or.inr ⟨Nat.succ_pos _, ?_⟩
    rcases h with ⟨h1, h2⟩ | ⟨h1, f, hf, h2⟩
    · exact ⟨10 * w + x, by omega, by show (if p.1 = 0 then nI (10 * w + x) else p.2) = nI (10 * w + x); rw [if_pos h1]⟩
    · exact ⟨f, hf, by show (if p.1 = 0 then nI (10 * w + x) else p.2) = nI f; rw [if_neg (by omega), h2]⟩
  · rw [if_neg e]; exact h
theorem st_le {b : Bool} {w x : Nat} {p : Nat × Int32} : (sst b w x p).1 ≤ p.1 + 1 := by
  unfold sst; split <;> simp
section SWAP
variable {F : gF} {o : Nat → Int32} {A : Nat → Nat → Int32} {Cf : Nat → Option Nat} {h : Nat} {s : Nat → Int32} {W C y Hn R T : Nat}
theorem iv_sx (hI : IV s W C y) {w x : Nat} (hw : w < W) (hx : x < W) (hwx : w ≠ x) : IV (sx s w x) W C y := by
  obtain ⟨hW, h10, hC, h4, hy, hy2, hV, hK⟩ := hI
  obtain ⟨p1, p2, p3, p4, hag⟩ := sx_at (s := s) (show w < 10 by omega) (show x < 10 by omega) hwx
  refine ⟨(hag 51 (by omega) (by omega) (by omega) (by omega)).trans hW, h10, (hag 52 (by omega) (by omega) (by omega) (by omega)).trans hC, h4, (hag 0 (by omega) (by omega) (by omega) (by omega)).trans hy, hy2, fun z hz => ?_, fun c hc => cv_ag (by omega) (fun k h1 h2 => hag k (by omega) (by omega) (by omega) (by omega)) (hK c hc)⟩
  obtain ⟨a, b, d, e, c, z1, z2, z3, z4, z5, f1, f2, f3, f4, f5⟩ := hV w hw
  obtain ⟨a', b', d', e', c', z1', z2', z3', z4', z5', f1', f2', f3', f4', f5'⟩ := hV x hx
  by_cases ew : z = w
  · subst ew
    exact ⟨a, b, d', e, c', z1, z2, z3', z4, z5', (hag _ (by omega) (by omega) (by omega) (by omega)).trans f1, (hag _ (by omega) (by omega) (by omega) (by omega)).trans f2, p2.trans f3', (hag _ (by omega) (by omega) (by omega) (by omega)).trans f4, p1.trans f5'⟩
  · by_cases ex : z = x
    · subst ex
      exact ⟨a', b', d, e', c, z1', z2', z3, z4', z5, (hag _ (by omega) (by omega) (by omega) (by omega)).trans f1', (hag _ (by omega) (by omega) (by omega) (by omega)).trans f2', p4.trans f3, (hag _ (by omega) (by omega) (by omega) (by omega)).trans f4', p3.trans f5⟩
    · exact wv_ag (by omega) (fun k hk => hag k (by omega) (by omega) (by omega) (by omega)) (Nat.le_refl _) (hV z hz)
theorem r_sw37 (hS : SV s W C y Hn R T) (hR : WR F o A Cf h s) {w : Nat} (hw : w < W) {k19 : (Nat → Int32) → (Nat → Int32) → (Nat → Int32) → (Nat → Int32) → (Nat → Int32) → (Nat → Int32) → Int32 → Int32 → Int32 → Int32 → Option (Int32 × (Nat → Int32) × (Nat → Int32) × (Nat → Int32) × (Nat → Int32) × (Nat → Int32) × (Nat → Int32))} {x1 : Int32} : ∀ k n x : Nat, ∀ (a10 a11 a12 a13 a15 : Nat → Int32) (p : Nat × Int32), x + k = W → k < n → w < x → FI p → p.1 + k ≤ 1000 → ∃ b10 b11 b12 b13 b15, pX12_swap_37 k19 n s a10 a11 a12 a13 a15 x1 (nI p.1) p.2 (nI w) (nI x) = k19 s b10 b11 b12 b13 b15 x1 (nI (spI s W w k x p).1) (spI s W w k x p).2 (nI (w + 1)) := by
  have hI := hS.1
  obtain ⟨hW, h10, hC, h4, hy, hy2, hV, hK⟩ := id hI
  have hH := wr_hr hR
  have hcs := cfs_chs (wr_cfs hS hR)
  intro k
  induction k with
  | zero =>
    intro n x a10 a11 a12 a13 a15 p e hn hwx hp hp2
    obtain ⟨n, rfl⟩ : ∃ j, n = j + 1 := ⟨n - 1, by omega⟩
    have e2 : x = W := by omega
    subst e2
    exact ⟨a10, a11, a12, a13, a15, by simp (disch := omega) only [pX12_swap_37, n_lit, nI_add, nI_1, n_cl, gck_in, gck_t, gck_T, ↓gnm_e, gbd_s, ↓reduceIte, n_leT, n_leF, n_ltT, n_ltF, n_eqT, n_eqF, Nat.add_zero, Nat.zero_add, hW, spI]⟩
  | succ k ih =>
    intro n x a10 a11 a12 a13 a15 p e hn hwx hp hp2
    obtain ⟨n, rfl⟩ : ∃ j, n = j + 1 := ⟨n - 1, by omega⟩
    have hxW : x < W := by omega
    by_cases ec : s (31 + w) = s (31 + x)
    · have hg : gn s W w x = false := by unfold gn; simp [ec]
      obtain ⟨b10, b11, b12, b13, b15, k1⟩ := ih n (x + 1) a10 a11 a12 a13 a15 p (by omega) (by omega) (by omega) hp (by omega)
      refine ⟨b10, b11, b12, b13, b15, ?_⟩
      rw [spI, hg, show sst false w x p = p from rfl, ← k1]
      simp (disch := omega) only [pX12_swap_37, n_lit, nI_add, nI_1, n_cl, gck_in, gck_t, gck_T, ↓gnm_e, gbd_s, ↓reduceIte, n_leT, n_leF, n_ltT, n_ltF, n_eqT, n_eqF, Nat.add_zero, Nat.zero_add, hW, ec]
    · obtain ⟨b10, b11, b12, b13, b15, k1, k2⟩ := r_gall hI hH hcs a10 a11 a12 a13 a15
      obtain ⟨-, -, -, -, hag⟩ := sx_at (s := s) (show w < 10 by omega) (show x < 10 by omega) (show w ≠ x by omega)
      obtain ⟨d10, d11, d12, d13, d15, k3, k4⟩ := r_gall (iv_sx hI hw hxW (by omega)) (hr_ag (hag 56 (by omega) (by omega) (by omega) (by omega)) (fun k hk => hag k (by omega) (by omega) (by omega) (by omega)) (sv_56 hS) hH) (cfs_chs (cfs_work h4 (fun k hk => hag k (by omega) (by omega) (by omega) (by omega)) (fun _ _ => rfl) (wr_cfs hS hR))) b10 b11 b12 b13 b15
      have q1 := r_changes (s := s) (show w < 10 by omega) (show x < 10 by omega) (show w ≠ x by omega)
      have q2 := r_changes (s := sx s w x) (show w < 10 by omega) (show x < 10 by omega) (show w ≠ x by omega)
      rw [sx_sx (by omega) (by omega) (by omega)] at q2
      have hk2w := k2 w hw
      have hk2x := k2 x hxW
      have hk4w := k4 w hw
      have hk4x := k4 x hxW
      by_cases gw : GS (sx s w x) w ≤ GS s w
      · have hg : gn s W w x = false := by unfold gn; simp [n_nlt.mpr gw]
        obtain ⟨c10, c11, c12, c13, c15, k5⟩ := ih n (x + 1) d10 d11 d12 d13 d15 p (by omega) (by omega) (by omega) hp (by omega)
        refine ⟨c10, c11, c12, c13, c15, ?_⟩
        rw [spI, hg, show sst false w x p = p from rfl, ← k5]
        simp (disch := omega) only [pX12_swap_37, pX12_swap_135, pX12_swap_156, n_lit, nI_add, nI_1, n_cl, gck_in, gck_t, gck_T, ↓gnm_e, gbd_s, ↓reduceIte, n_leT, n_leF, n_ltT, n_ltF, n_eqT, n_eqF, Nat.add_zero, Nat.zero_add, hW, ec, k1, q1, k3, hk2w, hk2x, hk4w, hk4x, gw, q2]
      · by_cases gx : GS (sx s w x) x ≤ GS s x
        · have hg : gn s W w x = false := by unfold gn; simp [n_nlt.mpr gx]
          obtain ⟨c10, c11, c12, c13, c15, k5⟩ := ih n (x + 1) d10 d11 d12 d13 d15 p (by omega) (by omega) (by omega) hp (by omega)
          refine ⟨c10, c11, c12, c13, c15, ?_⟩
          rw [spI, hg, show sst false w x p = p from rfl, ← k5]
          simp (disch := omega) only [pX12_swap_37, pX12_swap_135, pX12_swap_156, n_lit, nI_add, nI_1, n_cl, gck_in, gck_t, gck_T, ↓gnm_e, gbd_s, ↓reduceIte, n_leT, n_leF, n_ltT, n_ltF, n_eqT, n_eqF, Nat.add_zero, Nat.zero_add, hW, ec, k1, q1, k3, hk2w, hk2x, hk4w, hk4x, gw, gx, q2]
        · have hg : gn s W w x = true := by unfold gn; simp [hw, hxW, ec, n_nle.mp gx, n_nle.mp gw]
          obtain ⟨c10, c11, c12, c13, c15, k5⟩ := ih n (x + 1) d10 d11 d12 d13 d15 (sst true w x p) (by omega) (by omega) (by omega) (FI_st (by omega) (by omega) hp) (by have := st_le (b := true) (w := w) (x := x) (p := p); omega)
          refine ⟨c10, c11, c12, c13, c15, ?_⟩
          rw [spI, hg, ← k5]
          unfold sst
          rw [if_pos rfl]
          rcases hp with ⟨u1, u2⟩ | ⟨u1, f, u2, u3⟩
          · rw [if_pos u1]
            simp (disch := omega) only [pX12_swap_37, pX12_swap_135, pX12_swap_156, n_lit, nI_add, nI_1, n_cl, gck_in, gck_t, gck_T, ↓gnm_e, gbd_s, ↓reduceIte, n_leT, n_leF, n_ltT, n_ltF, n_eqT, n_eqF, Nat.add_zero, Nat.zero_add, hW, ec, k1, q1, k3, hk2w, hk2x, hk4w, hk4x, gw, gx, q2, u2, pk_mul, z_neqT]
          · rw [if_neg (by omega)]
            simp (disch := omega) only [pX12_swap_37, pX12_swap_135, pX12_swap_156, n_lit, nI_add, nI_1, n_cl, gck_in, gck_t, gck_T, ↓gnm_e, gbd_s, ↓reduceIte, n_leT, n_leF, n_ltT, n_ltF, n_eqT, n_eqF, Nat.add_zero, Nat.zero_add, hW, ec, k1, q1, k3, hk2w, hk2x, hk4w, hk4x, gw, gx, q2, u3, z_peq]
theorem spI_FI {w : Nat} (hw : w < 10) : ∀ n x : Nat, ∀ p, x + n ≤ 10 → FI p → FI (spI s W w n x p) ∧ (spI s W w n x p).1 ≤ p.1 + n := by
  intro n
  induction n with
  | zero => intro x p _ hp; exact ⟨hp, Nat.le_refl _⟩
  | succ n ih =>
    intro x p hx hp
    rw [spI]
    obtain ⟨k1, k2⟩ := ih (x + 1) (sst (gn s W w x) w x p) (by omega) (FI_st hw (by omega) hp)
    have := st_le (b := gn s W w x) (w := w) (x := x) (p := p)
    exact ⟨k1, by omega⟩
theorem r_sw19 (hS : SV s W C y Hn R T) (hR : WR F o A Cf h s) {x1 : Int32} (hx1 : x1 = nI 0 ∨ x1 = nI 1) : ∀ k n w : Nat, ∀ (a10 a11 a12 a13 a15 : Nat → Int32) (p : Nat × Int32), w + k = W → k < n → FI p → p.1 ≤ 10 * w → ∃ r', pX12_swap_19 n s a10 a11 a12 a13 a15 x1 (nI p.1) p.2 (nI w) = some (if x1 = nI 0 then nI (spO s W (10 - w) w p).1 else (spO s W (10 - w) w p).2, s, r') := by
  have hI := hS.1
  obtain ⟨hW, h10, hC, h4, hy, hy2, hV, hK⟩ := id hI
  intro k
  induction k with
  | zero =>
    intro n w a10 a11 a12 a13 a15 p e hn hp hp2
    obtain ⟨n, rfl⟩ : ∃ j, n = j + 1 := ⟨n - 1, by omega⟩
    have e2 : w = W := by omega
    subst e2
    rw [spO_id _ _ _ (Nat.le_refl _)]
    rcases hx1 with z | z <;> subst z
    · exact ⟨_, by simp (disch := omega) only [pX12_swap_19, n_lit, nI_add, nI_1, n_cl, gck_in, gck_t, gck_T, ↓gnm_e, gbd_s, ↓reduceIte, n_leT, n_leF, n_ltT, n_ltF, n_eqT, n_eqF, Nat.add_zero, Nat.zero_add, hW]; rfl⟩
    · exact ⟨_, by simp (disch := omega) only [pX12_swap_19, n_lit, nI_add, nI_1, n_cl, gck_in, gck_t, gck_T, ↓gnm_e, gbd_s, ↓reduceIte, n_leT, n_leF, n_ltT, n_ltF, n_eqT, n_eqF, Nat.add_zero, Nat.zero_add, hW]; rfl⟩
  | succ k ih =>
    intro n w a10 a11 a12 a13 a15 p e hn hp hp2
    obtain ⟨n, rfl⟩ : ∃ j, n = j + 1 := ⟨n - 1, by omega⟩
    have hwW : w < W := by omega
    obtain ⟨b10, b11, b12, b13, b15, k1⟩ := r_sw37 hS hR hwW (k19 := pX12_swap_19 n) (x1 := x1) (W - (w + 1)) 1000 (w + 1) a10 a11 a12 a13 a15 p (by omega) (by omega) (by omega) hp (by omega)
    rw [← spI_10 h10 hwW] at k1
    obtain ⟨f1, f2⟩ := spI_FI (s := s) (W := W) (w := w) (by omega) (9 - w) (w + 1) p (by omega) hp
    obtain ⟨r', k2⟩ := ih n (w + 1) b10 b11 b12 b13 b15 (spI s W w (9 - w) (w + 1) p) (by omega) (by omega) f1 (by omega)
    refine ⟨r', ?_⟩
    rw [show 10 - w = (10 - (w + 1)) + 1 from by omega, spO, ← k2, ← k1]
    simp (disch := omega) only [pX12_swap_19, n_lit, nI_add, nI_1, n_cl, gck_in, gck_t, gck_T, ↓gnm_e, gbd_s, ↓reduceIte, n_leT, n_leF, n_ltT, n_ltF, n_eqT, n_eqF, Nat.add_zero, Nat.zero_add, hW]
end SWAP
