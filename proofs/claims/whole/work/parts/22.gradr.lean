/-! PURE SIDE: the reference's grades of a team -/
section REF
variable {s a12 a13 a15 : Nat → Int32} {W : Nat} {p : Nat → Bool}
theorem r_turns (hW : s 51 = nI W) (h10 : W ≤ 10) (hI : isIn W p a15) {y f M : Nat} (hy : s 0 = nI y) (hy2 : y < 1000) (hf : f < 100000) (hM : M < 1000) {bt : Int32} {q : Nat → Bool} (hq : ∀ w, w < W → (q w = true ↔ p w = true ∧ ¬ nI w = bt)) (hMq : kn q W ≤ M) : ∀ k n x : Nat, ∀ a13 : Nat → Int32, x + k = W → k < n → ∃ b13, pX12_turnsOnes_at13_23 s a15 n a13 (nI f) bt (nI M) (nI (kn q x)) (nI x) = some b13 ∧ ∀ w, b13 w = if x ≤ w ∧ (w < W ∧ q w = true ∧ ton y M (kn q w) < f) then nI 1 else a13 w := by
  intro k
  induction k with
  | zero =>
    intro n x a13 e hn
    obtain ⟨n, rfl⟩ : ∃ j, n = j + 1 := ⟨n - 1, by omega⟩
    have e2 : x = W := by omega
    subst e2
    refine ⟨a13, ?_, fun w => ?_⟩
    · simp (disch := omega) only [pX12_turnsOnes_at13_23, n_lit, nI_add, nI_1, n_cl, gck_in, gck_t, gck_T, gnm_e, gbd_s, if_true, if_false, if_pos, if_neg, n_le, n_lt, n_eq, Nat.add_zero, Nat.zero_add, hW, Nat.le_refl, if_true]
    · rw [if_neg (by omega)]
  | succ k ih =>
    intro n x a13 e hn
    obtain ⟨n, rfl⟩ : ∃ j, n = j + 1 := ⟨n - 1, by omega⟩
    have hi := hI x (by omega)
    have hqx := hq x (by omega)
    have hcx := kn_le q x
    by_cases c : q x = true
    · obtain ⟨c1, c2⟩ := hqx.mp c
      have hcM := kn_lt (p := q) (show x < W by omega) c
      rw [if_pos c1] at hi
      have ht := ton_lt (y := y) (n := M) (i := kn q x) (by omega)
      by_cases d : ton y M (kn q x) < f
      · obtain ⟨b, h1, h2⟩ := ih n (x + 1) (upd a13 x (nI 1)) (by omega) (by omega)
        rw [kn_t c] at h1
        refine ⟨b, ?_, st_put (P := fun w => w < W ∧ q w = true ∧ ton y M (kn q w) < f) (V := fun _ => nI 1) h2 ⟨by omega, c, d⟩ rfl⟩
        rw [← h1]
        simp (disch := omega) only [pX12_turnsOnes_at13_23, n_lit, nI_add, nI_1, n_cl, gck_in, gck_t, gck_T, gnm_e, gbd_s, if_true, if_false, if_pos, if_neg, n_le, n_lt, n_eq, Nat.add_zero, Nat.zero_add, hW, hi, hy, ton_r, if_neg c2]
      · obtain ⟨b, h1, h2⟩ := ih n (x + 1) a13 (by omega) (by omega)
        rw [kn_t c] at h1
        refine ⟨b, ?_, st_same (P := fun w => w < W ∧ q w = true ∧ ton y M (kn q w) < f) (V := fun _ => nI 1) h2 (fun z => d z.2.2)⟩
        rw [← h1]
        simp (disch := omega) only [pX12_turnsOnes_at13_23, n_lit, nI_add, nI_1, n_cl, gck_in, gck_t, gck_T, gnm_e, gbd_s, if_true, if_false, if_pos, if_neg, n_le, n_lt, n_eq, Nat.add_zero, Nat.zero_add, hW, hi, hy, ton_r, if_neg c2, upd_self]
    · obtain ⟨b, h1, h2⟩ := ih n (x + 1) a13 (by omega) (by omega)
      rw [kn_f c] at h1
      refine ⟨b, ?_, st_same (P := fun w => w < W ∧ q w = true ∧ ton y M (kn q w) < f) (V := fun _ => nI 1) h2 (fun z => c z.2.1)⟩
      rw [← h1]
      by_cases c1 : p x = true
      · rw [if_pos c1] at hi
        have c2 : nI x = bt := by
          by_cases z : nI x = bt
          · exact z
          · exact absurd (hqx.mpr ⟨c1, z⟩) c
        simp (disch := omega) only [pX12_turnsOnes_at13_23, n_lit, nI_add, nI_1, n_cl, gck_in, gck_t, gck_T, gnm_e, gbd_s, if_true, if_false, if_pos, if_neg, n_le, n_lt, n_eq, Nat.add_zero, Nat.zero_add, hW, hi, if_pos c2]
      · rw [if_neg c1] at hi
        simp (disch := omega) only [pX12_turnsOnes_at13_23, n_lit, nI_add, nI_1, n_cl, gck_in, gck_t, gck_T, gnm_e, gbd_s, if_true, if_false, if_pos, if_neg, n_le, n_lt, n_eq, Nat.add_zero, Nat.zero_add, hW, hi, if_true]
theorem r_ones_in (hW : s 51 = nI W) (h10 : W ≤ 10) (hI : isIn W p a15) {w f : Nat} (hw : w < W) {k2} {a13 : Nat → Int32} : ∀ k n x : Nat, x + k = W → k < n → pX12_givesOnes_at13_28 k2 s a12 a15 n a13 (nI f) (nI w) (nI (kn (fun x => p x && bf a12 w x) x)) (nI x) = pX12_givesOnes_at13_104 k2 s a12 a15 a13 (nI f) (nI w) (nI (pl W p a12 w)) := by
  intro k
  induction k with
  | zero =>
    intro n x e hn
    obtain ⟨n, rfl⟩ : ∃ j, n = j + 1 := ⟨n - 1, by omega⟩
    have e2 : x = W := by omega
    subst e2
    simp (disch := omega) only [pX12_givesOnes_at13_28, n_lit, nI_add, nI_1, n_cl, gck_in, gck_t, gck_T, gnm_e, gbd_s, if_true, if_false, if_pos, if_neg, n_le, n_lt, n_eq, Nat.add_zero, Nat.zero_add, hW, Nat.le_refl, if_true, pl]
  | succ k ih =>
    intro n x e hn
    obtain ⟨n, rfl⟩ : ∃ j, n = j + 1 := ⟨n - 1, by omega⟩
    have hc := kn_le (fun x => p x && bf a12 w x) x
    have hi := hI x (by omega)
    have z := ih n (x + 1) (by omega) (by omega)
    by_cases q1 : p x = true
    · rw [if_pos q1] at hi
      by_cases q4 : a12 x < a12 w
      · rw [kn_t (by simp [q1, bf, q4])] at z
        simp (disch := omega) only [pX12_givesOnes_at13_28, n_lit, nI_add, nI_1, n_cl, gck_in, gck_t, gck_T, gnm_e, gbd_s, if_true, if_false, if_pos, if_neg, n_le, n_lt, n_eq, Nat.add_zero, Nat.zero_add, hW, hi, if_pos q4, z]
      · by_cases q5 : a12 x = a12 w
        · by_cases q6 : w < x
          · rw [kn_t (by simp [q1, bf, q5, q6])] at z
            simp (disch := omega) only [pX12_givesOnes_at13_28, n_lit, nI_add, nI_1, n_cl, gck_in, gck_t, gck_T, gnm_e, gbd_s, if_true, if_false, if_pos, if_neg, n_le, n_lt, n_eq, Nat.add_zero, Nat.zero_add, hW, hi, if_neg q4, if_pos q5, z]
          · rw [kn_f (by simp [q1, bf, q4, q6])] at z
            simp (disch := omega) only [pX12_givesOnes_at13_28, n_lit, nI_add, nI_1, n_cl, gck_in, gck_t, gck_T, gnm_e, gbd_s, if_true, if_false, if_pos, if_neg, n_le, n_lt, n_eq, Nat.add_zero, Nat.zero_add, hW, hi, if_neg q4, if_pos q5, z]
        · rw [kn_f (by simp [q1, bf, q4, q5])] at z
          simp (disch := omega) only [pX12_givesOnes_at13_28, n_lit, nI_add, nI_1, n_cl, gck_in, gck_t, gck_T, gnm_e, gbd_s, if_true, if_false, if_pos, if_neg, n_le, n_lt, n_eq, Nat.add_zero, Nat.zero_add, hW, hi, if_neg q4, if_neg q5, z]
    · rw [if_neg q1] at hi
      rw [kn_f (by simp [q1])] at z
      simp (disch := omega) only [pX12_givesOnes_at13_28, n_lit, nI_add, nI_1, n_cl, gck_in, gck_t, gck_T, gnm_e, gbd_s, if_true, if_false, if_pos, if_neg, n_le, n_lt, n_eq, Nat.add_zero, Nat.zero_add, hW, hi, if_true, z]
theorem r_ones (hW : s 51 = nI W) (h10 : W ≤ 10) (hI : isIn W p a15) {f : Nat} (hf : f < 1000) : ∀ k n x : Nat, ∀ a13 : Nat → Int32, x + k = W → k < n → ∃ b13, pX12_givesOnes_at13_2 s a12 a15 n a13 (nI f) (nI x) = some b13 ∧ ∀ w, b13 w = if x ≤ w ∧ (w < W ∧ p w = true ∧ pl W p a12 w < f) then nI 1 else a13 w := by
  intro k
  induction k with
  | zero =>
    intro n x a13 e hn
    obtain ⟨n, rfl⟩ : ∃ j, n = j + 1 := ⟨n - 1, by omega⟩
    have e2 : x = W := by omega
    subst e2
    refine ⟨a13, ?_, fun w => ?_⟩
    · simp (disch := omega) only [pX12_givesOnes_at13_2, n_lit, nI_add, nI_1, n_cl, gck_in, gck_t, gck_T, gnm_e, gbd_s, if_true, if_false, if_pos, if_neg, n_le, n_lt, n_eq, Nat.add_zero, Nat.zero_add, hW, Nat.le_refl, if_true]
    · rw [if_neg (by omega)]
  | succ k ih =>
    intro n x a13 e hn
    obtain ⟨n, rfl⟩ : ∃ j, n = j + 1 := ⟨n - 1, by omega⟩
    have hi := hI x (by omega)
    have hc : pl W p a12 x ≤ W := kn_le _ W
    by_cases q : p x = true
    · rw [if_pos q] at hi
      have hin := r_ones_in (a12 := a12) (f := f) hW h10 hI (show x < W by omega) (k2 := pX12_givesOnes_at13_2 s a12 a15 n) (a13 := a13) W 1000 0 (by omega) (by omega)
      rw [show kn (fun w => p w && bf a12 x w) 0 = 0 from rfl] at hin
      by_cases q6 : pl W p a12 x < f
      · obtain ⟨b, h1, h2⟩ := ih n (x + 1) (upd a13 x (nI 1)) (by omega) (by omega)
        refine ⟨b, ?_, st_put (P := fun w => w < W ∧ p w = true ∧ pl W p a12 w < f) (V := fun _ => nI 1) h2 ⟨by omega, q, q6⟩ rfl⟩
        rw [← h1]
        simp (disch := omega) only [pX12_givesOnes_at13_2, n_lit, nI_add, nI_1, n_cl, gck_in, gck_t, gck_T, gnm_e, gbd_s, if_true, if_false, if_pos, if_neg, n_le, n_lt, n_eq, Nat.add_zero, Nat.zero_add, hW, hi, hin]
        simp (disch := omega) only [pX12_givesOnes_at13_104, n_lit, nI_add, nI_1, n_cl, gck_in, gck_t, gck_T, gnm_e, gbd_s, if_true, if_false, if_pos, if_neg, n_le, n_lt, n_eq, Nat.add_zero, Nat.zero_add]
      · obtain ⟨b, h1, h2⟩ := ih n (x + 1) a13 (by omega) (by omega)
        refine ⟨b, ?_, st_same (P := fun w => w < W ∧ p w = true ∧ pl W p a12 w < f) (V := fun _ => nI 1) h2 (fun z => q6 z.2.2)⟩
        rw [← h1]
        simp (disch := omega) only [pX12_givesOnes_at13_2, n_lit, nI_add, nI_1, n_cl, gck_in, gck_t, gck_T, gnm_e, gbd_s, if_true, if_false, if_pos, if_neg, n_le, n_lt, n_eq, Nat.add_zero, Nat.zero_add, hW, hi, hin]
        simp (disch := omega) only [pX12_givesOnes_at13_104, n_lit, nI_add, nI_1, n_cl, gck_in, gck_t, gck_T, gnm_e, gbd_s, if_true, if_false, if_pos, if_neg, n_le, n_lt, n_eq, Nat.add_zero, Nat.zero_add, upd_self]
    · rw [if_neg q] at hi
      obtain ⟨b, h1, h2⟩ := ih n (x + 1) a13 (by omega) (by omega)
      refine ⟨b, ?_, st_same (P := fun w => w < W ∧ p w = true ∧ pl W p a12 w < f) (V := fun _ => nI 1) h2 (fun z => q z.2.1)⟩
      rw [← h1]
      simp (disch := omega) only [pX12_givesOnes_at13_2, n_lit, nI_add, nI_1, n_cl, gck_in, gck_t, gck_T, gnm_e, gbd_s, if_true, if_false, if_pos, if_neg, n_le, n_lt, n_eq, Nat.add_zero, Nat.zero_add, hW, hi, if_true]
theorem n_neg1 {n : Nat} (h : n < 2147483648) : (nI n = -nI 1) = False := by
  apply propext
  rw [n_eqI, n_ti h, n_neg (by omega)]
  constructor
  · intro z; omega
  · exact fun z => z.elim
theorem r_turn (hW : s 51 = nI W) (h10 : W ≤ 10) (hI : isIn W p a15) {y o : Nat} (hy : s 0 = nI y) (hy2 : y < 1000) (ho : o < 1000) : ∃ b13, pX12_turnsOnes_at13 s a15 a13 (nI o) (-nI 1) = some b13 ∧ ∀ w, b13 w = if 0 ≤ w ∧ (w < W ∧ p w = true ∧ ton y (kn p W) (kn p w) < o) then nI 1 else a13 w := by
  have hcn := kn_le p W
  obtain ⟨b, h1, h2⟩ := r_turns hW h10 hI hy hy2 (show o < 100000 by omega) (show kn p W < 1000 by omega) (bt := -nI 1) (q := p) (fun w hw => by rw [n_neg1 (by omega)]; simp) (Nat.le_refl _) W 1000 0 a13 (by omega) (by omega)
  refine ⟨b, ?_, h2⟩
  rw [show kn p 0 = 0 from rfl] at h1
  unfold pX12_turnsOnes_at13
  rw [r_size hW h10 hI, gbd_s, if_pos (by rfl), gnm_e, n_lit, n_sub0]
  exact h1
theorem r_turnv (hW : s 51 = nI W) (h10 : W ≤ 10) (hI : isIn W p a15) {y o v : Nat} (hy : s 0 = nI y) (hy2 : y < 1000) (ho : o < 1000) (hv : v < 10) (h1 : 1 ≤ kn p W) (hq1 : kn (px p v) W + 1 = kn p W) : ∃ b13, pX12_turnsOnes_at13 s a15 a13 (nI o) (nI v) = some b13 ∧ ∀ w, b13 w = if 0 ≤ w ∧ (w < W ∧ px p v w = true ∧ ton y (kn p W - 1) (kn (px p v) w) < o) then nI 1 else a13 w := by
  have hcn := kn_le p W
  obtain ⟨b, h1, h2⟩ := r_turns hW h10 hI hy hy2 (show o < 100000 by omega) (show kn p W - 1 < 1000 by omega) (bt := nI v) (q := px p v) (fun w hw => by rw [n_eq (by omega) (by omega)]; simp [px]) (by omega) W 1000 0 a13 (by omega) (by omega)
  refine ⟨b, ?_, h2⟩
  rw [show kn (px p v) 0 = 0 from rfl] at h1
  unfold pX12_turnsOnes_at13
  rw [r_size hW h10 hI, gbd_s, if_neg (by rw [n_lit, n_neg1 (by omega)]; exact fun z => z), gnm_e, n_lit, n_sub (by omega)]
  exact h1
/-- who has a one -/
theorem r_onesBy (hW : s 51 = nI W) (h10 : W ≤ 10) (hp : ∀ w, p w = true → w < W) (hI : isIn W p a15) {y v o c : Nat} (hy : s 0 = nI y) (hy2 : y < 1000) (hv : s (64 + c) = nI v) (hv2 : v < 1000) (hc : c < 4) (ho : o < 1000) : ∃ b13, pX12_onesBy s a12 a15 a13 (nI c) (nI o) = some b13 ∧ ∀ w, b13 w = if p w = true ∧ lp W p a12 (s (60 + c)) v y w < o then nI 1 else a13 w := by
  have hcn := kn_le p W
  unfold pX12_onesBy
  by_cases o0 : o = 0
  · subst o0
    refine ⟨a13, ?_, fun w => ?_⟩
    · simp (disch := omega) only [n_lit, nI_add, nI_1, n_cl, gck_in, gck_t, gck_T, gnm_e, gbd_s, if_true, if_false, if_pos, if_neg, n_le, n_lt, n_eq, Nat.add_zero, Nat.zero_add, hv, if_true]
    · rw [if_neg (fun z => Nat.not_lt_zero _ z.2)]
  · have hturn := r_turn (a13 := a13) hW h10 hI hy hy2 ho
    by_cases k5 : s (60 + c) = nI 5
    · by_cases hpv : p v = true
      · have hvW := hp v hpv
        have hiv := hI v hvW
        rw [if_pos hpv] at hiv
        have hcv := kn_lt hvW hpv
        have hq1 : kn (px p v) W + 1 = kn p W := by
          have := kn_two (p := p) (a := px p v) (b := fun x => decide (x = v)) (n := W) (fun x _ => by
            unfold px
            by_cases e : x = v
            · subst e; simp [hpv]
            · simp [e])
          rw [kn_one hvW] at this; omega
        by_cases one : kn p W ≤ 1
        · refine ⟨upd a13 v (nI 1), ?_, fun w => ?_⟩
          · simp (disch := omega) only [n_lit, nI_add, nI_1, n_cl, gck_in, gck_t, gck_T, gnm_e, gbd_s, if_true, if_false, if_pos, if_neg, n_le, n_lt, n_eq, Nat.add_zero, Nat.zero_add, hv, hW, k5, if_true, hiv, r_size hW h10 hI]
          · by_cases ew : w = v
            · subst ew
              rw [pk_us, if_pos ⟨hpv, by rw [lp_k k5 hpv]; omega⟩]
            · rw [pk_un ew, if_neg]
              intro z
              have z1 := kn_lt (hp w z.1) z.1
              exact ew (kn_inj z.1 hpv (by omega))
        · obtain ⟨b, h1, h2⟩ := r_turnv (a13 := upd a13 v (nI 1)) (o := o - 1) hW h10 hI hy hy2 (by omega) (show v < 10 by omega) (by omega) hq1
          refine ⟨b, ?_, fun w => ?_⟩
          · simp (disch := omega) only [n_lit, nI_add, nI_1, n_cl, gck_in, gck_t, gck_T, gnm_e, gbd_s, if_true, if_false, if_pos, if_neg, n_le, n_lt, n_eq, Nat.add_zero, Nat.zero_add, hv, hW, k5, hiv, r_size hW h10 hI, n_sub, h1]
          · rw [h2 w]
            by_cases ew : w = v
            · subst ew
              rw [if_neg (by simp [px]), pk_us, if_pos ⟨hpv, by rw [lp_k k5 hpv]; omega⟩]
            · rw [pk_un ew, lp_k2 k5 hpv ew]
              by_cases z : p w = true ∧ 1 + ton y (kn p W - 1) (kn (px p v) w) < o
              · rw [if_pos z, if_pos ⟨Nat.zero_le _, hp w z.1, by simp [px, z.1, ew], by omega⟩]
              · rw [if_neg z, if_neg]
                intro z2
                refine z ⟨?_, by omega⟩
                have := z2.2.2.1
                simp [px] at this
                exact this.1
      · obtain ⟨b, h1, h2⟩ := hturn
        refine ⟨b, ?_, fun w => ?_⟩
        · by_cases vW : v < W
          · have hiv := hI v vW
            rw [if_neg hpv] at hiv
            simp (disch := omega) only [pX12_onesBy_78, n_lit, nI_add, nI_1, n_cl, gck_in, gck_t, gck_T, gnm_e, gbd_s, if_true, if_false, if_pos, if_neg, n_le, n_lt, n_eq, Nat.add_zero, Nat.zero_add, hv, hW, k5, if_true, hiv, h1]
          · simp (disch := omega) only [pX12_onesBy_78, n_lit, nI_add, nI_1, n_cl, gck_in, gck_t, gck_T, gnm_e, gbd_s, if_true, if_false, if_pos, if_neg, n_le, n_lt, n_eq, Nat.add_zero, Nat.zero_add, hv, hW, k5, if_true, h1]
        · rw [h2 w, lp_t (fun z => hpv z.2) (Or.inr k5)]
          by_cases z : p w = true ∧ ton y (kn p W) (kn p w) < o
          · rw [if_pos z, if_pos ⟨Nat.zero_le _, hp w z.1, z⟩]
          · rw [if_neg z, if_neg (fun z2 => z z2.2.2)]
    · by_cases k2 : s (60 + c) = nI 2
      · obtain ⟨b, h1, h2⟩ := hturn
        refine ⟨b, ?_, fun w => ?_⟩
        · simp (disch := omega) only [pX12_onesBy_78, n_lit, nI_add, nI_1, n_cl, gck_in, gck_t, gck_T, gnm_e, gbd_s, if_true, if_false, if_pos, if_neg, n_le, n_lt, n_eq, Nat.add_zero, Nat.zero_add, hv, k2, if_true, h1]
        · rw [h2 w, lp_t (fun z => k5 z.1) (Or.inl k2)]
          by_cases z : p w = true ∧ ton y (kn p W) (kn p w) < o
          · rw [if_pos z, if_pos ⟨Nat.zero_le _, hp w z.1, z⟩]
          · rw [if_neg z, if_neg (fun z2 => z z2.2.2)]
      · obtain ⟨b, h1, h2⟩ := r_ones (a12 := a12) hW h10 hI ho W 1000 0 a13 (by omega) (by omega)
        refine ⟨b, ?_, fun w => ?_⟩
        · have e1 : pX12_givesOnes_at13 s a12 a15 a13 (nI o) = some b := by
            unfold pX12_givesOnes_at13; exact h1
          simp (disch := omega) only [pX12_onesBy_78, n_lit, nI_add, nI_1, n_cl, gck_in, gck_t, gck_T, gnm_e, gbd_s, if_true, if_false, if_pos, if_neg, n_le, n_lt, n_eq, Nat.add_zero, Nat.zero_add, hv, if_neg k5, if_neg k2, e1]
        · rw [h2 w, lp_p k2 k5]
          by_cases z : p w = true ∧ pl W p a12 w < o
          · rw [if_pos z, if_pos ⟨Nat.zero_le _, hp w z.1, z⟩]
          · rw [if_neg z, if_neg (fun z2 => z z2.2.2)]
end REF
section TEAM
variable {s : Nat → Int32} {W : Nat}
theorem r_team2 (hW : s 51 = nI W) (h10 : W ≤ 10) {a12 : Nat → Int32} {c : Int32} : ∀ k n x : Nat, ∀ a13 a15 : Nat → Int32, x + k = W → k < n → (∀ w, w < x → a15 w = if pT s W c w = true then nI 1 else nI 0) → ∃ b13 b15, pX12_gradesTeam_2 s a12 n a13 a15 c (nI x) = pX12_gradesTeam_76 s a12 b13 b15 c ∧ isIn W (pT s W c) b15 ∧ ∀ w, b13 w = if x ≤ w ∧ (pT s W c w = true) then gb (a12 w) else a13 w := by
  intro k
  induction k with
  | zero =>
    intro n x a13 a15 e hn hI
    obtain ⟨n, rfl⟩ : ∃ j, n = j + 1 := ⟨n - 1, by omega⟩
    have e2 : x = W := by omega
    subst e2
    refine ⟨a13, a15, ?_, hI, fun w => ?_⟩
    · simp (disch := omega) only [pX12_gradesTeam_2, n_lit, nI_add, nI_1, n_cl, gck_in, gck_t, gck_T, gnm_e, gbd_s, if_true, if_false, if_pos, if_neg, n_le, n_lt, n_eq, Nat.add_zero, Nat.zero_add, hW, Nat.le_refl, if_true]
    · rw [if_neg (fun z => by have := pT_lt w z.2; omega)]
  | succ k ih =>
    intro n x a13 a15 e hn hI
    obtain ⟨n, rfl⟩ : ∃ j, n = j + 1 := ⟨n - 1, by omega⟩
    by_cases q : s (31 + x) = c
    · have hq : pT s W c x = true := pT_iff.mpr ⟨by omega, q⟩
      obtain ⟨b13, b15, h1, h2, h3⟩ := ih n (x + 1) (upd a13 x (gb (a12 x))) (upd a15 x (nI 1)) (by omega) (by omega) (fun w hw => by
        by_cases ew : w = x
        · subst ew; rw [pk_us, if_pos hq]
        · rw [pk_un ew]; exact hI w (by omega))
      refine ⟨b13, b15, ?_, h2, st_put (P := fun w => pT s W c w = true) (V := fun w => gb (a12 w)) h3 hq rfl⟩
      rw [← h1]
      simp (disch := omega) only [pX12_gradesTeam_2, pX12_gradesTeam_36, n_lit, nI_add, nI_1, n_cl, gck_in, gck_t, gck_T, gnm_e, gbd_s, if_true, if_false, if_pos, if_neg, n_le, n_lt, n_eq, Nat.add_zero, Nat.zero_add, hW, if_pos q, vb_1, pk_us, gb_r]
    · have hq : ¬ pT s W c x = true := fun z => q (pT_iff.mp z).2
      obtain ⟨b13, b15, h1, h2, h3⟩ := ih n (x + 1) a13 (upd a15 x (nI 0)) (by omega) (by omega) (fun w hw => by
        by_cases ew : w = x
        · subst ew; rw [pk_us, if_neg hq]
        · rw [pk_un ew]; exact hI w (by omega))
      refine ⟨b13, b15, ?_, h2, st_same (P := fun w => pT s W c w = true) (V := fun w => gb (a12 w)) h3 hq⟩
      rw [← h1]
      simp (disch := omega) only [pX12_gradesTeam_2, pX12_gradesTeam_36, n_lit, nI_add, nI_1, n_cl, gck_in, gck_t, gck_T, gnm_e, gbd_s, if_true, if_false, if_pos, if_neg, n_le, n_lt, n_eq, Nat.add_zero, Nat.zero_add, hW, if_neg q, vb_0, pk_us, if_true, upd_self]
/-- THE GRADES of a team: the reference -/
theorem r_grades (hW : s 51 = nI W) (h10 : W ≤ 10) {y v c fv on : Nat} (hy : s 0 = nI y) (hy2 : y < 1000) (hv : s (64 + c) = nI v) (hv2 : v < 1000) (hc : c < 4) (h0 : pX12_told s 0 = some (nI fv)) (h1 : pX12_told s 1 = some (nI on)) (hfv : fv ≤ 99) (hon : on ≤ 99) (a12 a13 a15 : Nat → Int32) : ∃ b13 b15, pX12_gradesTeam s a12 a13 a15 (nI c) = some (b13, b15) ∧ ∀ w, b13 w = if pT s W (nI c) w = true then GR W (pT s W (nI c)) a12 (fv * kn (pT s W (nI c)) W / 10) (on * kn (pT s W (nI c)) W / 10) (s (60 + c)) v y w else a13 w := by
  have hcn := kn_le (pT s W (nI c)) W
  have hm1 : fv * kn (pT s W (nI c)) W ≤ 99 * 10 := Nat.mul_le_mul hfv (by omega)
  have hm2 : on * kn (pT s W (nI c)) W ≤ 99 * 10 := Nat.mul_le_mul hon (by omega)
  obtain ⟨b13, b15, g1, g2, g3⟩ := r_team2 hW h10 (a12 := a12) (c := nI c) W 1000 0 a13 a15 (by omega) (by omega) (fun w hw => absurd hw (Nat.not_lt_zero _))
  obtain ⟨d13, k1, k2⟩ := r_fives (a12 := a12) hW h10 g2 (f := fv * kn (pT s W (nI c)) W / 10) (by omega) W 1000 0 b13 (by omega) (by omega) (fun w _ => rfl)
  obtain ⟨e13, m1, m2⟩ := r_onesBy (a12 := a12) (a13 := d13) hW h10 (fun w h => pT_lt w h) g2 hy hy2 hv hv2 hc (o := on * kn (pT s W (nI c)) W / 10) (by omega)
  refine ⟨e13, b15, ?_, fun w => ?_⟩
  · unfold pX12_gradesTeam
    have k1' : pX12_givesFives_at13 s a12 b15 b13 (nI (fv * kn (pT s W (nI c)) W / 10)) = some d13 := by
      unfold pX12_givesFives_at13; exact k1
    refine g1.trans ?_
    unfold pX12_gradesTeam_76
    rw [h0, gbd_s, r_share hW h10 g2 hfv, gbd_s, k1', gbd_s, h1, gbd_s, r_share hW h10 g2 hon, gbd_s, m1, gbd_s]
  · rw [m2 w, k2 w, g3 w]
    by_cases hw : pT s W (nI c) w = true
    · have hwW := pT_lt w hw
      simp only [hw, true_and, if_true, Nat.zero_le, hwW]
      unfold GR g5
      by_cases z : lp W (pT s W (nI c)) a12 (s (60 + c)) v y w < on * kn (pT s W (nI c)) W / 10
      · rw [if_pos z, if_pos z]
      · rw [if_neg z, if_neg z]
        by_cases z5 : gb (a12 w) = nI 5
        · have := ah_pl (m := a12) hw hwW z5
          rw [if_pos z5, if_pos z5]
          by_cases z6 : kn (ah (pT s W (nI c)) a12 w) W < fv * kn (pT s W (nI c)) W / 10
          · rw [if_pos z6, if_neg (by omega)]
          · rw [if_neg z6, if_pos (by omega)]
        · rw [if_neg z5, if_neg z5]
    · simp only [hw, false_and, and_false, if_false, Bool.false_eq_true]
end TEAM
