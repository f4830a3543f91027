/-! PURE SIDE: the component's share: fives and ones of a gathered team -/
def sm (p : Nat → Bool) (m : Nat → Int32) : Nat → Int32
  | 0 => nI 0
  | n + 1 => if p n = true then sm p m n + m n else sm p m n
theorem sm_t {p : Nat → Bool} {m : Nat → Int32} {n : Nat} (h : p n = true) : sm p m (n + 1) = sm p m n + m n := by rw [sm, if_pos h]
theorem sm_f {p : Nat → Bool} {m : Nat → Int32} {n : Nat} (h : ¬ p n = true) : sm p m (n + 1) = sm p m n := by rw [sm, if_neg h]
theorem sm_congr {p q : Nat → Bool} {m g : Nat → Int32} {n : Nat} (h : ∀ w, w < n → p w = q w ∧ (p w = true → m w = g w)) : sm p m n = sm q g n := by
  induction n with
  | zero => rfl
  | succ n ih =>
    have h1 := h n (by omega)
    rw [sm, sm, ih (fun w hw => h w (by omega)), ← h1.1]
    by_cases e : p n = true
    · rw [if_pos e, if_pos e, h1.2 e]
    · rw [if_neg e, if_neg e]
theorem n_ltsub {i a f : Nat} (h1 : i < 1000000) (h2 : a < 1000000) (h3 : f < 1000000) : (nI i < nI a - nI f) = (i + f < a) := by
  rw [n_ltI, pk_sub_toInt (by omega) (by omega), n_ti (by omega)]
  exact propext ⟨fun z => by omega, fun z => by omega⟩
section SH
variable {W : Nat} {p : Nat → Bool}
theorem ln_put {l : Nat → Nat} {a b : Nat → Int32} {i w0 : Nat} {v : Int32} {Q : Nat → Prop} {V : Nat → Int32} [DecidablePred Q] (hinj : ∀ w x, p w = true → p x = true → l w = l x → w = x) (hw : p w0 = true) (hl : l w0 = i) (hb : ∀ w, b w = if p w = true ∧ i + 1 ≤ l w ∧ Q w then V w else upd a w0 v w) (hQ : Q w0) (hv : v = V w0) : ∀ w, b w = if p w = true ∧ i ≤ l w ∧ Q w then V w else a w := by
  intro w
  rw [hb w]
  by_cases e : w = w0
  · subst e
    rw [pk_us, if_neg (by omega), if_pos ⟨hw, by omega, hQ⟩, hv]
  · rw [pk_un e]
    by_cases c : p w = true ∧ i + 1 ≤ l w ∧ Q w
    · rw [if_pos c, if_pos ⟨c.1, by omega, c.2.2⟩]
    · refine (if_neg c).trans (if_neg (fun z => ?_)).symm
      by_cases e2 : l w = i
      · exact e (hinj w w0 z.1 hw (e2.trans hl.symm))
      · exact c ⟨z.1, by omega, z.2.2⟩
theorem c_sum {F : gF} {y : Int32} {h : Nat} {g0 g1 g2 g3 : Nat → Int32} (h10 : W ≤ 10) (hp : ∀ w, p w = true → w < W) (hg : tm p g2) : ∀ k n x : Nat, x + k = W → k < n → pX1_share_w0_181 F y h (nI (kn p W)) g1 g2 n g0 g3 (sm p g0 x) (nI (kn p x)) = some (sm p g0 W, g0, g3) := by
  have hcW := kn_le p W
  intro k
  induction k with
  | zero =>
    intro n x e hn
    obtain ⟨n, rfl⟩ : ∃ j, n = j + 1 := ⟨n - 1, by omega⟩
    have e2 : x = W := by omega
    subst e2
    simp (disch := omega) only [pX1_share_w0_181, n_lit, nI_add, nI_1, n_cl, gck_in, gck_t, gck_T, gnm_e, gbd_s, if_true, if_false, if_pos, if_neg, n_le, n_lt, n_eq, Nat.add_zero, Nat.zero_add, Nat.le_refl]
  | succ k ih =>
    intro n x e hn
    by_cases q : p x = true
    · obtain ⟨n, rfl⟩ : ∃ j, n = j + 1 := ⟨n - 1, by omega⟩
      have z := ih n (x + 1) (by omega) (by omega)
      have hx2 := kn_lt (show x < W by omega) q
      rw [kn_t q, sm_t q] at z
      simp (disch := omega) only [pX1_share_w0_181, n_lit, nI_add, nI_1, n_cl, gck_in, gck_t, gck_T, gnm_e, gbd_s, if_true, if_false, if_pos, if_neg, n_le, n_lt, n_eq, Nat.add_zero, Nat.zero_add, hg x q, z]
    · have z := ih n (x + 1) (by omega) (by omega)
      rw [kn_f q, sm_f q] at z
      exact z
theorem c_ones {F : gF} {y : Int32} {h : Nat} {g1 g2 g3 : Nat → Int32} {gs : Int32} {l : Nat → Nat} (h10 : W ≤ 10) (hp : ∀ w, p w = true → w < W) (hl : LN W p l g3) {o : Nat} (ho : o ≤ kn p W) : ∀ k n i : Nat, ∀ g0 : Nat → Int32, i + k = o → k < n → ∃ b0, pX1_share_w0_149 F y h gs g1 g2 n g0 g3 (nI o) (nI i) = pX1_share_w0_181 F y h gs g1 g2 1000 b0 g3 (nI 0) (nI 0) ∧ ∀ w, b0 w = if p w = true ∧ i ≤ l w ∧ l w < o then nI 1 else g0 w := by
  have hcW := kn_le p W
  intro k
  induction k with
  | zero =>
    intro n i g0 e hn
    obtain ⟨n, rfl⟩ : ∃ j, n = j + 1 := ⟨n - 1, by omega⟩
    have e2 : i = o := by omega
    subst e2
    refine ⟨g0, ?_, fun w => by rw [if_neg (by omega)]⟩
    simp (disch := omega) only [pX1_share_w0_149, n_lit, nI_add, nI_1, n_cl, gck_in, gck_t, gck_T, gnm_e, gbd_s, if_true, if_false, if_pos, if_neg, n_le, n_lt, n_eq, Nat.add_zero, Nat.zero_add, Nat.le_refl]
  | succ k ih =>
    intro n i g0 e hn
    obtain ⟨n, rfl⟩ : ∃ j, n = j + 1 := ⟨n - 1, by omega⟩
    obtain ⟨w, hw, hlw⟩ := hl.2.1 i (by omega)
    have hg := (hl.1 w hw).2
    rw [hlw] at hg
    have hwW := hp w hw
    obtain ⟨b0, h1, h2⟩ := ih n (i + 1) (upd g0 w (nI 1)) (by omega) (by omega)
    refine ⟨b0, ?_, ln_put (Q := fun w => l w < o) (V := fun _ => nI 1) hl.2.2 hw hlw h2 (by omega) rfl⟩
    rw [← h1]
    simp (disch := omega) only [pX1_share_w0_149, n_lit, nI_add, nI_1, n_cl, gck_in, gck_t, gck_T, gnm_e, gbd_s, if_true, if_false, if_pos, if_neg, n_le, n_lt, n_eq, Nat.add_zero, Nat.zero_add, hg]
theorem c_fives {F : gF} {y : Int32} {h b : Nat} {m g2 g3 : Nat → Int32} (h10 : W ≤ 10) (hp : ∀ w, p w = true → w < W) (hl : LN W p (pl W p m) g3) {f : Nat} {o : Int32} (hf : f < 1000) : ∀ k n i : Nat, ∀ g0 : Nat → Int32, i + k = kn p W → k < n → ∃ b0, pX1_share_w0_47 F y h (nI (kn p W)) m g2 n g0 g3 b (nI f) o (nI i) = pX1_share_w0_126 F y h (nI (kn p W)) m g2 b0 g3 b o ∧ ∀ w, b0 w = if p w = true ∧ i ≤ pl W p m w ∧ True then g5 W p m f w else g0 w := by
  have hcW := kn_le p W
  intro k
  induction k with
  | zero =>
    intro n i g0 e hn
    obtain ⟨n, rfl⟩ : ∃ j, n = j + 1 := ⟨n - 1, by omega⟩
    have e2 : i = kn p W := by omega
    subst e2
    refine ⟨g0, ?_, fun w => ?_⟩
    · simp (disch := omega) only [pX1_share_w0_47, n_lit, nI_add, nI_1, n_cl, gck_in, gck_t, gck_T, gnm_e, gbd_s, if_true, if_false, if_pos, if_neg, n_le, n_lt, n_eq, Nat.add_zero, Nat.zero_add, Nat.le_refl]
    · rw [if_neg (fun z => by have := (hl.1 w z.1).1; omega)]
  | succ k ih =>
    intro n i g0 e hn
    obtain ⟨n, rfl⟩ : ∃ j, n = j + 1 := ⟨n - 1, by omega⟩
    obtain ⟨w, hw, hlw⟩ := hl.2.1 i (by omega)
    have hg := (hl.1 w hw).2
    rw [hlw] at hg
    have hwW := hp w hw
    obtain ⟨b0, h1, h2⟩ := ih n (i + 1) (upd g0 w (g5 W p m f w)) (by omega) (by omega)
    refine ⟨b0, ?_, ln_put (Q := fun _ => True) (V := fun w => g5 W p m f w) hl.2.2 hw hlw h2 trivial rfl⟩
    rw [← h1]
    unfold g5
    rw [hlw]
    by_cases q5 : gb (m w) = nI 5
    · rw [if_pos q5]
      by_cases q6 : i + f < kn p W
      · simp (disch := omega) only [pX1_share_w0_47, pX1_share_w0_89, n_lit, nI_add, nI_1, n_cl, gck_in, gck_t, gck_T, gnm_e, gbd_s, if_true, if_false, if_pos, if_neg, n_le, n_lt, n_eq, Nat.add_zero, Nat.zero_add, hg, gb_c, n_ltsub, q5]
      · simp (disch := omega) only [pX1_share_w0_47, pX1_share_w0_89, n_lit, nI_add, nI_1, n_cl, gck_in, gck_t, gck_T, gnm_e, gbd_s, if_true, if_false, if_pos, if_neg, n_le, n_lt, n_eq, Nat.add_zero, Nat.zero_add, hg, gb_c, n_ltsub, q5]
    · rw [if_neg q5]
      by_cases q6 : i + f < kn p W
      · simp (disch := omega) only [pX1_share_w0_47, pX1_share_w0_89, n_lit, nI_add, nI_1, n_cl, gck_in, gck_t, gck_T, gnm_e, gbd_s, if_true, if_false, if_pos, if_neg, n_le, n_lt, n_eq, Nat.add_zero, Nat.zero_add, hg, gb_c, n_ltsub, if_neg q5]
      · simp (disch := omega) only [pX1_share_w0_47, pX1_share_w0_89, n_lit, nI_add, nI_1, n_cl, gck_in, gck_t, gck_T, gnm_e, gbd_s, if_true, if_false, if_pos, if_neg, n_le, n_lt, n_eq, Nat.add_zero, Nat.zero_add, hg, gb_c, n_ltsub, if_neg q5]
/-- the line up of a kind -/
theorem c_line {F : gF} {y v h b : Nat} {m g0 g2 g3 : Nat → Int32} {o : Int32} (h10 : W ≤ 10) (hp : ∀ w, p w = true → w < W) (hg : tm p g2) (hl : LN W p (pl W p m) g3) (hb : chv F b = true) (hy : y < 1000) (hv : v < 1000) (hcv : cv F b = nI v) : ∃ l3, pX1_share_w0_126 F (nI y) h (nI (kn p W)) m g2 g0 g3 b o = pX1_share_w0_149 F (nI y) h (nI (kn p W)) m g2 1000 g0 l3 o (nI 0) ∧ LN W p (lp W p m (ck F b) v y) l3 := by
  unfold pX1_share_w0_126
  by_cases k2 : ck F b = nI 2
  · obtain ⟨f, h1, h2⟩ := c_turn h10 hp hg hy g3
    refine ⟨f, ?_, ?_⟩
    · simp (disch := omega) only [n_lit, nI_add, nI_1, n_cl, gck_in, gck_t, gck_T, gnm_e, gbd_s, if_true, if_false, if_pos, if_neg, n_le, n_lt, n_eq, Nat.add_zero, Nat.zero_add, hb, k2, h1]
    · have e : (fun w => ton y (kn p W) (kn p w)) = lp W p m (ck F b) v y := by
        funext w
        rw [lp_t (fun z => by rw [k2] at z; exact absurd z.1 (by decide)) (Or.inl k2)]
      rw [← e]; exact h2
  · by_cases k5 : ck F b = nI 5
    · obtain ⟨f, h1, h2⟩ := c_keep h10 hp hg hy hv hcv g3
      refine ⟨f, ?_, ?_⟩
      · simp (disch := omega) only [n_lit, nI_add, nI_1, n_cl, gck_in, gck_t, gck_T, gnm_e, gbd_s, if_true, if_false, if_pos, if_neg, n_le, n_lt, n_eq, Nat.add_zero, Nat.zero_add, hb, k5, h1]
      · have e : (fun w => if p v = true then (if w = v then 0 else 1 + ton y (kn p W - 1) (kn (px p v) w)) else ton y (kn p W) (kn p w)) = lp W p m (ck F b) v y := by
          funext w
          by_cases q : p v = true
          · rw [if_pos q]
            by_cases ew : w = v
            · subst ew; rw [if_pos rfl, lp_k k5 q]
            · rw [if_neg ew, lp_k2 k5 q ew]
          · rw [if_neg q, lp_t (fun z => q z.2) (Or.inr k5)]
        rw [← e]; exact h2
    · refine ⟨g3, ?_, ?_⟩
      · simp (disch := omega) only [n_lit, nI_add, nI_1, n_cl, gck_in, gck_t, gck_T, gnm_e, gbd_s, if_true, if_false, if_pos, if_neg, n_le, n_lt, n_eq, Nat.add_zero, Nat.zero_add, hb, k2, k5, pX0_lineUp_k0, pX0_lineUp_k1, pX0_lineUp_k3, pX0_lineUp_k4, pX0_lineUp_k6, ite_self]
      · have e : pl W p m = lp W p m (ck F b) v y := by
          funext w
          rw [lp_p k2 k5]
        rw [← e]; exact hl
/-- FIVES and ONES: the component -/
theorem c_share {F : gF} {y v h b fv on : Nat} {m g2 : Nat → Int32} (h10 : W ≤ 10) (hp : ∀ w, p w = true → w < W) (hg : tm p g2) (hb : chv F b = true) (hy : y < 1000) (hv : v < 1000) (hcv : cv F b = nI v) (hh : hsv F h = true) (h0 : hI F h 0 = nI fv) (h1 : hI F h 1 = nI on) (hfv : fv ≤ 99) (hon : on ≤ 99) (g0 g3 : Nat → Int32) : ∃ b0 b3, pX1_share_w0 F (nI y) h (nI (kn p W)) m g2 g0 g3 b = some (sm p b0 W, b0, b3) ∧ ∀ w, b0 w = if p w = true then GR W p m (fv * kn p W / 10) (on * kn p W / 10) (ck F b) v y w else g0 w := by
  have hcn := kn_le p W
  have hm1 : fv * kn p W ≤ 99 * 10 := Nat.mul_le_mul hfv (by omega)
  have hm2 : on * kn p W ≤ 99 * 10 := Nat.mul_le_mul hon (by omega)
  obtain ⟨r3, k1, k2⟩ := c_rank (m := m) h10 hp hg g3
  obtain ⟨a0, k3, k4⟩ := c_fives (F := F) (y := nI y) (h := h) (b := b) (g2 := g2) (f := fv * kn p W / 10) (o := nI (min (on * kn p W / 10) (kn p W))) h10 hp k2 (by omega) (kn p W) 1000 0 g0 (by omega) (by omega)
  obtain ⟨l3, k5, k6⟩ := c_line (F := F) (h := h) (g0 := a0) (o := nI (min (on * kn p W / 10) (kn p W))) h10 hp hg k2 hb hy hv hcv
  obtain ⟨b0, k7, k8⟩ := c_ones (F := F) (y := nI y) (h := h) (g1 := m) (g2 := g2) (gs := nI (kn p W)) h10 hp k6 (o := min (on * kn p W / 10) (kn p W)) (Nat.min_le_right _ _) (min (on * kn p W / 10) (kn p W)) 1000 0 a0 (by omega) (by omega)
  have k9 := c_sum (F := F) (y := nI y) (h := h) (g0 := b0) (g1 := m) (g3 := l3) h10 hp hg W 1000 0 (by omega) (by omega)
  refine ⟨b0, l3, ?_, fun w => ?_⟩
  · unfold pX1_share_w0
    have e5 : (if nI (on * kn p W / 10) < nI (kn p W) then nI (on * kn p W / 10) else nI (kn p W)) = nI (min (on * kn p W / 10) (kn p W)) := by
      by_cases z : on * kn p W / 10 < kn p W
      · rw [if_pos (by rw [n_lt (by omega) (by omega)]; exact z), Nat.min_eq_left (by omega)]
      · rw [if_neg (by rw [n_lt (by omega) (by omega)]; exact z), Nat.min_eq_right (by omega)]
    rw [gck_t hh, h0, h1, n_lit, pk_mul, pk_mul, pk_div (by omega) (by decide) (by decide), pk_div (by omega) (by decide) (by decide), e5, gnm_e, gnm_e, k1, gbd_s]
    exact k3.trans (k5.trans (k7.trans k9))
  · rw [k8 w, k4 w]
    by_cases hw : p w = true
    · have hlt := (k6.1 w hw).1
      rw [if_pos hw]
      unfold GR
      by_cases z : lp W p m (ck F b) v y w < on * kn p W / 10
      · rw [if_pos ⟨hw, Nat.zero_le _, by omega⟩, if_pos z]
      · rw [if_neg (fun z2 => z (by have := z2.2.2; omega)), if_neg z, if_pos ⟨hw, Nat.zero_le _, trivial⟩]
    · rw [if_neg (fun z => hw z.1), if_neg (fun z => hw z.1), if_neg hw]
end SH
