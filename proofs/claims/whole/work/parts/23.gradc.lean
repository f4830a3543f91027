/-! PURE SIDE: the component's grades of a team -/
section TEAMC
variable {W : Nat} {p : Nat → Bool}
theorem tb_t {n : Nat} (h : p n = true) : tb p (n + 1) = tb p n + 2 ^ n := by rw [tb, if_pos h]
theorem tb_f {n : Nat} (h : ¬ p n = true) : tb p (n + 1) = tb p n := by rw [tb, if_neg h]; rfl
theorem c_bits {a10 : Nat → Int32} (h10 : W ≤ 10) {c : Int32} (hp : ∀ w, w < W → (p w = true ↔ a10 w = c)) : ∀ k n x : Nat, x + k = W → k < n → pX10_teamBits_w0_4 (nI W) a10 n c (nI (tb p x)) (nI x) = some (nI (tb p W)) := by
  intro k
  induction k with
  | zero =>
    intro n x e hn
    obtain ⟨n, rfl⟩ : ∃ j, n = j + 1 := ⟨n - 1, by omega⟩
    have e2 : x = W := by omega
    subst e2
    simp (disch := omega) only [pX10_teamBits_w0_4, n_lit, nI_add, nI_1, n_cl, gck_in, gck_t, gck_T, gnm_e, gbd_s, if_true, if_false, if_pos, if_neg, n_le, n_lt, n_eq, Nat.add_zero, Nat.zero_add, Nat.le_refl, if_true]
  | succ k ih =>
    intro n x e hn
    obtain ⟨n, rfl⟩ : ∃ j, n = j + 1 := ⟨n - 1, by omega⟩
    have z := ih n (x + 1) (by omega) (by omega)
    by_cases q : a10 x = c
    · have hq := (hp x (by omega)).mpr q
      rw [tb_t hq] at z
      simp (disch := omega) only [pX10_teamBits_w0_4, n_lit, nI_add, nI_1, n_cl, gck_in, gck_t, gck_T, gnm_e, gbd_s, if_true, if_false, if_pos, if_neg, n_le, n_lt, n_eq, Nat.add_zero, Nat.zero_add, if_pos q, tb_or x (by omega) _ (tb_lt p x), z]
    · have hq : ¬ p x = true := fun y => q ((hp x (by omega)).mp y)
      rw [tb_f hq] at z
      simp (disch := omega) only [pX10_teamBits_w0_4, n_lit, nI_add, nI_1, n_cl, gck_in, gck_t, gck_T, gnm_e, gbd_s, if_true, if_false, if_pos, if_neg, n_le, n_lt, n_eq, Nat.add_zero, Nat.zero_add, if_neg q, z]
theorem c_team {a10 : Nat → Int32} (h10 : W ≤ 10) {c : Int32} (hp : ∀ w, w < W → (p w = true ↔ a10 w = c)) : pX10_teamBits_w0 (nI W) a10 c = some (nI (tb p W)) := by
  unfold pX10_teamBits_w0
  exact c_bits h10 hp W 1000 0 (by omega) (by omega)
/-- the team, gathered -/
def tm (p : Nat → Bool) (g : Nat → Int32) : Prop := ∀ w, p w = true → g (kn p w) = nI w
theorem c_gath (h10 : W ≤ 10) (hp : ∀ w, p w = true → w < W) : ∀ k n x : Nat, ∀ g : Nat → Int32, x + k = 10 → k < n → (∀ w, w < x → p w = true → g (kn p w) = nI w) → ∃ f, pX1_gather_7 n (nI (kn p x)) g (nI (tb p W)) (nI x) = some (nI (kn p W), f) ∧ tm p f := by
  intro k
  induction k with
  | zero =>
    intro n x g e hn hg
    obtain ⟨n, rfl⟩ : ∃ j, n = j + 1 := ⟨n - 1, by omega⟩
    have e2 : x = 10 := by omega
    subst e2
    refine ⟨g, ?_, fun w hw => hg w (by have := hp w hw; omega) hw⟩
    simp (disch := omega) only [pX1_gather_7, n_lit, nI_add, nI_1, n_cl, gck_in, gck_t, gck_T, gnm_e, gbd_s, if_true, if_false, if_pos, if_neg, n_le, n_lt, n_eq, Nat.add_zero, Nat.zero_add, Nat.le_refl, if_true, kn_out hp h10]
  | succ k ih =>
    intro n x g e hn hg
    obtain ⟨n, rfl⟩ : ∃ j, n = j + 1 := ⟨n - 1, by omega⟩
    have hc := kn_le p x
    have hb := tb_bit x (by omega) _ (tb_1024 p h10)
    rw [tb_at p W h10 x (by omega)] at hb
    by_cases q : p x = true
    · have hb2 : ¬ (nI (tb p W) &&& nI 1 <<< (nI x &&& nI 31)) = nI 0 := fun z => hb.mp z ⟨hp x q, q⟩
      obtain ⟨f, h1, h2⟩ := ih n (x + 1) (upd g (kn p x) (nI x)) (by omega) (by omega) (fun w hw h => by
        by_cases ew : w = x
        · subst ew; exact pk_us
        · have := kn_lt (show w < x by omega) h
          rw [pk_un (by omega)]; exact hg w (by omega) h)
      rw [kn_t q] at h1
      refine ⟨f, ?_, h2⟩
      rw [← h1]
      simp (disch := omega) only [pX1_gather_7, n_lit, nI_add, nI_1, n_cl, gck_in, gck_t, gck_T, gnm_e, gbd_s, if_true, if_false, if_pos, if_neg, n_le, n_lt, n_eq, Nat.add_zero, Nat.zero_add, if_neg hb2]
    · have hb2 : (nI (tb p W) &&& nI 1 <<< (nI x &&& nI 31)) = nI 0 := hb.mpr (fun z => q z.2)
      obtain ⟨f, h1, h2⟩ := ih n (x + 1) g (by omega) (by omega) (fun w hw h => by
        by_cases ew : w = x
        · subst ew; exact absurd h q
        · exact hg w (by omega) h)
      rw [kn_f q] at h1
      refine ⟨f, ?_, h2⟩
      rw [← h1]
      simp (disch := omega) only [pX1_gather_7, n_lit, nI_add, nI_1, n_cl, gck_in, gck_t, gck_T, gnm_e, gbd_s, if_true, if_false, if_pos, if_neg, n_le, n_lt, n_eq, Nat.add_zero, Nat.zero_add, if_pos hb2]
theorem c_gather (h10 : W ≤ 10) (hp : ∀ w, p w = true → w < W) (gs : Int32) (g : Nat → Int32) : ∃ f, pX1_gather gs g (nI (tb p W)) = some (nI (kn p W), f) ∧ tm p f := by
  unfold pX1_gather
  exact c_gath h10 hp 10 1000 0 g (by omega) (by omega) (fun w hw => absurd hw (Nat.not_lt_zero _))
/-! the line -/
theorem bf_trans {m : Nat → Int32} {w x y : Nat} (h1 : bf m w x = true) (h2 : bf m x y = true) : bf m w y = true := by
  simp only [bf, Bool.or_eq_true, Bool.and_eq_true, decide_eq_true_eq, n_ltI, n_eqI] at h1 h2 ⊢
  omega
theorem pl_lt {m : Nat → Int32} {w x : Nat} (hx : p x = true) (hW : x < W) (h : bf m w x = true) : pl W p m x < pl W p m w := by
  have e1 := kn_two (p := fun y => (p y && bf m x y) || decide (y = x)) (a := fun y => p y && bf m x y) (b := fun y => decide (y = x)) (n := W) (fun y _ => by
    by_cases e : y = x
    · subst e; simp [bf_self]
    · simp [e])
  rw [kn_one hW] at e1
  have e2 : kn (fun y => (p y && bf m x y) || decide (y = x)) W ≤ pl W p m w := by
    refine kn_sub (fun y _ hy => ?_)
    simp only [Bool.or_eq_true, Bool.and_eq_true, decide_eq_true_eq] at hy ⊢
    rcases hy with ⟨z1, z2⟩ | z
    · exact ⟨z1, bf_trans h z2⟩
    · rw [z]; exact ⟨hx, h⟩
  unfold pl at *
  omega
theorem pl_inj {m : Nat → Int32} {w x : Nat} (hw : p w = true) (hx : p x = true) (hwW : w < W) (hxW : x < W) (e : pl W p m w = pl W p m x) : w = x := by
  by_cases z : x = w
  · exact z.symm
  · rcases bf_three (m := m) z with ⟨h, -⟩ | ⟨-, h⟩
    · have := pl_lt (p := p) (m := m) hx hxW h; omega
    · have := pl_lt (p := p) (m := m) hw hwW h; omega
theorem pl_bd {m : Nat → Int32} {w : Nat} (hw : p w = true) (hwW : w < W) : pl W p m w < kn p W := by
  have e2 : kn (fun x => p x && !decide (x = w)) W + kn (fun x => decide (x = w)) W = kn p W := by
    refine (kn_two (fun x _ => ?_)).symm
    by_cases e : x = w
    · subst e; simp [hw]
    · simp [e]
  rw [kn_one hwW] at e2
  have e3 : pl W p m w ≤ kn (fun x => p x && !decide (x = w)) W := by
    refine kn_sub (fun y _ hy => ?_)
    simp only [Bool.and_eq_true] at hy ⊢
    refine ⟨hy.1, ?_⟩
    by_cases e : y = w
    · subst e; rw [bf_self] at hy; exact absurd hy.2 (by decide)
    · simp [e]
  omega
/-- a line that tells the team by l -/
def LN (W : Nat) (p : Nat → Bool) (l : Nat → Nat) (g : Nat → Int32) : Prop := (∀ w, p w = true → l w < kn p W ∧ g (l w) = nI w) ∧ (∀ i, i < kn p W → ∃ w, p w = true ∧ l w = i) ∧ (∀ w x, p w = true → p x = true → l w = l x → w = x)
theorem c_rank14 {m g2 g3 : Nat → Int32} {k2} (h10 : W ≤ 10) (hp : ∀ w, p w = true → w < W) (hg : tm p g2) {w : Nat} (hw : p w = true) : ∀ k n x : Nat, x + k = W → k < n → pX1_rank_14 k2 (nI (kn p W)) m g2 n g3 (nI (kn p w)) (nI (kn (fun x => p x && bf m w x) x)) (nI (kn p x)) = k2 (upd g3 (pl W p m w) (nI w)) (nI (kn p w + 1)) := by
  have hwW := hp w hw
  have hw2 := kn_lt hwW hw
  have hcW := kn_le p W
  have hgw := hg w hw
  have hpl := pl_bd (m := m) hw hwW
  intro k
  induction k with
  | zero =>
    intro n x e hn
    obtain ⟨n, rfl⟩ : ∃ j, n = j + 1 := ⟨n - 1, by omega⟩
    have e2 : x = W := by omega
    subst e2
    have hpl2 : kn (fun y => p y && bf m w y) x < kn p x := hpl
    simp (disch := omega) only [pX1_rank_14, n_lit, nI_add, nI_1, n_cl, gck_in, gck_t, gck_T, gnm_e, gbd_s, if_true, if_false, if_pos, if_neg, n_le, n_lt, n_eq, Nat.add_zero, Nat.zero_add, Nat.le_refl, if_true, hgw, pl]
  | succ k ih =>
    intro n x e hn
    by_cases q : p x = true
    · obtain ⟨n, rfl⟩ : ∃ j, n = j + 1 := ⟨n - 1, by omega⟩
      have z := ih n (x + 1) (by omega) (by omega)
      have hc := kn_le (fun x => p x && bf m w x) x
      have hx2 := kn_lt (show x < W by omega) q
      have hgx := hg x q
      rw [kn_t q] at z
      by_cases q4 : m x < m w
      · rw [kn_t (by simp [q, bf, q4])] at z
        have q5 : ¬ m w ≤ m x := n_nle.mpr q4
        have q6 : ¬ m x = m w := fun y => by rw [y] at q4; exact absurd q4 (n_nlt.mpr (n_leI.mpr (Int.le_refl _)))
        simp (disch := omega) only [pX1_rank_14, pX1_rank_52, pX1_rank_84, n_lit, nI_add, nI_1, n_cl, gck_in, gck_t, gck_T, gnm_e, gbd_s, if_true, if_false, if_pos, if_neg, n_le, n_lt, n_eq, Nat.add_zero, Nat.zero_add, hgx, hgw, if_neg q5, if_neg q6, z]
      · have q5 : m w ≤ m x := n_nlt.mp q4
        by_cases q6 : m x = m w
        · by_cases q7 : w < x
          · rw [kn_t (by simp [q, bf, q6, q7])] at z
            have q8 : ¬ kn p x ≤ kn p w := fun y => by have := (kn_lei hw q).mp y; omega
            simp (disch := omega) only [pX1_rank_14, pX1_rank_52, pX1_rank_84, n_lit, nI_add, nI_1, n_cl, gck_in, gck_t, gck_T, gnm_e, gbd_s, if_true, if_false, if_pos, if_neg, n_le, n_lt, n_eq, Nat.add_zero, Nat.zero_add, hgx, hgw, if_pos q5, if_pos q6, z]
          · rw [kn_f (by simp [q, bf, q4, q7])] at z
            have q8 : kn p x ≤ kn p w := (kn_lei hw q).mpr (by omega)
            simp (disch := omega) only [pX1_rank_14, pX1_rank_52, pX1_rank_84, n_lit, nI_add, nI_1, n_cl, gck_in, gck_t, gck_T, gnm_e, gbd_s, if_true, if_false, if_pos, if_neg, n_le, n_lt, n_eq, Nat.add_zero, Nat.zero_add, hgx, hgw, if_pos q5, if_pos q6, z]
        · rw [kn_f (by simp [q, bf, q4, q6])] at z
          simp (disch := omega) only [pX1_rank_14, pX1_rank_52, pX1_rank_84, n_lit, nI_add, nI_1, n_cl, gck_in, gck_t, gck_T, gnm_e, gbd_s, if_true, if_false, if_pos, if_neg, n_le, n_lt, n_eq, Nat.add_zero, Nat.zero_add, hgx, hgw, if_pos q5, if_neg q6, z]
    · have z := ih n (x + 1) (by omega) (by omega)
      rw [kn_f q, kn_f (by simp [q])] at z
      exact z
theorem c_rank2 {m g2 : Nat → Int32} (h10 : W ≤ 10) (hp : ∀ w, p w = true → w < W) (hg : tm p g2) : ∀ k n x : Nat, ∀ g3 : Nat → Int32, x + k = W → k < n → (∀ w, w < x → p w = true → g3 (pl W p m w) = nI w) → ∃ f, pX1_rank_2 (nI (kn p W)) m g2 n g3 (nI (kn p x)) = some f ∧ ∀ w, p w = true → f (pl W p m w) = nI w := by
  have hcW := kn_le p W
  intro k
  induction k with
  | zero =>
    intro n x g3 e hn h3
    obtain ⟨n, rfl⟩ : ∃ j, n = j + 1 := ⟨n - 1, by omega⟩
    have e2 : x = W := by omega
    subst e2
    refine ⟨g3, ?_, fun w hw => h3 w (hp w hw) hw⟩
    simp (disch := omega) only [pX1_rank_2, n_lit, nI_add, nI_1, n_cl, gck_in, gck_t, gck_T, gnm_e, gbd_s, if_true, if_false, if_pos, if_neg, n_le, n_lt, n_eq, Nat.add_zero, Nat.zero_add, Nat.le_refl, if_true]
  | succ k ih =>
    intro n x g3 e hn h3
    by_cases q : p x = true
    · obtain ⟨n, rfl⟩ : ∃ j, n = j + 1 := ⟨n - 1, by omega⟩
      have hx2 := kn_lt (show x < W by omega) q
      obtain ⟨f, h1, h2⟩ := ih n (x + 1) (upd g3 (pl W p m x) (nI x)) (by omega) (by omega) (fun w hw h => by
        by_cases ew : w = x
        · subst ew; exact pk_us
        · rw [pk_un (fun z => ew (pl_inj h q (hp w h) (hp x q) z))]; exact h3 w (by omega) h)
      rw [kn_t q] at h1
      refine ⟨f, ?_, h2⟩
      rw [← h1]
      have hin := c_rank14 (m := m) (g3 := g3) (k2 := pX1_rank_2 (nI (kn p W)) m g2 n) h10 hp hg q W 1000 0 (by omega) (by omega)
      have h0 : nI (kn (fun y => p y && bf m x y) 0) = nI 0 := rfl
      have h00 : nI (kn p 0) = nI 0 := rfl
      rw [h0, h00] at hin
      simp (disch := omega) only [pX1_rank_2, n_lit, nI_add, nI_1, n_cl, gck_in, gck_t, gck_T, gnm_e, gbd_s, if_true, if_false, if_pos, if_neg, n_le, n_lt, n_eq, Nat.add_zero, Nat.zero_add, hin]
    · obtain ⟨f, h1, h2⟩ := ih n (x + 1) g3 (by omega) (by omega) (fun w hw h => by
        by_cases ew : w = x
        · subst ew; exact absurd h q
        · exact h3 w (by omega) h)
      rw [kn_f q] at h1
      exact ⟨f, h1, h2⟩
theorem c_rank {m g2 : Nat → Int32} (h10 : W ≤ 10) (hp : ∀ w, p w = true → w < W) (hg : tm p g2) (g3 : Nat → Int32) : ∃ f, pX1_rank (nI (kn p W)) m g2 g3 = some f ∧ LN W p (pl W p m) f := by
  obtain ⟨f, h1, h2⟩ := c_rank2 (m := m) h10 hp hg W 1000 0 g3 (by omega) (by omega) (fun w hw => absurd hw (Nat.not_lt_zero _))
  have hcW := kn_le p W
  refine ⟨f, by unfold pX1_rank; exact h1, fun w hw => ⟨pl_bd hw (hp w hw), h2 w hw⟩, fun i hi => ?_, fun w x hw hx e => pl_inj hw hx (hp w hw) (hp x hx) e⟩
  have ht : ∀ i, i < kn p W → p (g2 i).toNatClampNeg = true ∧ kn p (g2 i).toNatClampNeg = i := fun i hi => by
    obtain ⟨w, z1, z2, z3⟩ := kn_ex hi
    have := hg w z2
    rw [z3] at this
    rw [this, n_cl (by omega)]
    exact ⟨z2, z3⟩
  obtain ⟨j, z1, z2⟩ := pg (kn p W) (fun i => pl W p m (g2 i).toNatClampNeg) (fun i hi => pl_bd (ht i hi).1 (hp _ (ht i hi).1)) (fun i j hi hj e => by
    have := pl_inj (ht i hi).1 (ht j hj).1 (hp _ (ht i hi).1) (hp _ (ht j hj).1) e
    rw [← (ht i hi).2, ← (ht j hj).2, this]) i hi
  exact ⟨_, (ht j z1).1, z2⟩
theorem md2 {a n : Nat} (h : a < 2 * n) : a % n = if a < n then a else a - n := by
  by_cases e : a < n
  · rw [if_pos e, Nat.mod_eq_of_lt e]
  · rw [if_neg e, Nat.mod_eq_sub_mod (by omega), Nat.mod_eq_of_lt (by omega)]
theorem ton_to {y n j : Nat} (hj : j < n) : (y + ton y n j) % n = j := by
  have h1 := Nat.mod_lt y (show 0 < n by omega)
  have h3 := ton_lt (y := y) (n := n) (i := j) (by omega)
  have h2 : ton y n j = if j + n - y % n < n then j + n - y % n else j + n - y % n - n := md2 (by omega)
  rw [Nat.add_mod, Nat.mod_eq_of_lt h3]
  generalize ton y n j = t at *
  rw [md2 (by omega)]
  by_cases e : j + n - y % n < n
  · rw [if_pos e] at h2; split <;> omega
  · rw [if_neg e] at h2; split <;> omega
theorem ton_of {y n i : Nat} (hi : i < n) : ton y n ((y + i) % n) = i := by
  have h1 := Nat.mod_lt y (show 0 < n by omega)
  unfold ton
  rw [Nat.add_mod, Nat.mod_eq_of_lt hi, md2 (a := y % n + i) (by omega)]
  by_cases e : y % n + i < n
  · rw [if_pos e, md2 (by omega)]
    split <;> omega
  · rw [if_neg e, md2 (by omega)]
    split <;> omega
theorem c_turn3 {g2 : Nat → Int32} {N y : Nat} (hN : N ≤ 10) (hy : y < 1000) : ∀ k n i : Nat, ∀ g3 : Nat → Int32, i + k = N → k < n → ∃ f, pX9_lineUp_k2_3 g2 n g3 (nI N) (nI y) (nI i) = some f ∧ ∀ j, f j = if i ≤ j ∧ j < N then g2 ((y + j) % N) else g3 j := by
  intro k
  induction k with
  | zero =>
    intro n i g3 e hn
    obtain ⟨n, rfl⟩ : ∃ j, n = j + 1 := ⟨n - 1, by omega⟩
    have e2 : i = N := by omega
    subst e2
    refine ⟨g3, ?_, fun j => by rw [if_neg (by omega)]⟩
    simp (disch := omega) only [pX9_lineUp_k2_3, n_lit, nI_add, nI_1, n_cl, gck_in, gck_t, gck_T, gnm_e, gbd_s, if_true, if_false, if_pos, if_neg, n_le, n_lt, n_eq, Nat.add_zero, Nat.zero_add, Nat.le_refl, if_true]
  | succ k ih =>
    intro n i g3 e hn
    obtain ⟨n, rfl⟩ : ∃ j, n = j + 1 := ⟨n - 1, by omega⟩
    have hm := Nat.mod_lt (y + i) (show 0 < N by omega)
    obtain ⟨f, h1, h2⟩ := ih n (i + 1) (upd g3 i (g2 ((y + i) % N))) (by omega) (by omega)
    refine ⟨f, ?_, st_put (P := fun j => j < N) (V := fun j => g2 ((y + j) % N)) h2 (by omega) rfl⟩
    rw [← h1]
    simp (disch := omega) only [pX9_lineUp_k2_3, n_lit, nI_add, nI_1, n_cl, gck_in, gck_t, gck_T, gnm_e, gbd_s, if_true, if_false, if_pos, if_neg, n_le, n_lt, n_eq, Nat.add_zero, Nat.zero_add, pk_rem]
theorem c_turn {g2 : Nat → Int32} (h10 : W ≤ 10) (hp : ∀ w, p w = true → w < W) (hg : tm p g2) {y : Nat} (hy : y < 1000) (g3 : Nat → Int32) : ∃ f, pX9_lineUp_k2 g2 g3 (nI (kn p W)) (nI y) = some f ∧ LN W p (fun w => ton y (kn p W) (kn p w)) f := by
  have hcW := kn_le p W
  obtain ⟨f, h1, h2⟩ := c_turn3 (g2 := g2) (N := kn p W) (y := y) (by omega) hy (kn p W) 1000 0 g3 (by omega) (by omega)
  refine ⟨f, by unfold pX9_lineUp_k2; exact h1, fun w hw => ?_, fun i hi => ?_, fun w x hw hx e => ?_⟩
  · have hw2 := kn_lt (hp w hw) hw
    have ht := ton_lt (y := y) (n := kn p W) (i := kn p w) (by omega)
    refine ⟨ht, ?_⟩
    rw [h2, if_pos ⟨Nat.zero_le _, ht⟩, ton_to hw2]
    exact hg w hw
  · obtain ⟨w, z1, z2, z3⟩ := kn_ex (Nat.mod_lt (y + i) (show 0 < kn p W by omega))
    exact ⟨w, z2, by show ton y (kn p W) (kn p w) = i; rw [z3]; exact ton_of hi⟩
  · have e' : ton y (kn p W) (kn p w) = ton y (kn p W) (kn p x) := e
    have h3 := ton_to (y := y) (kn_lt (hp w hw) hw)
    have h4 := ton_to (y := y) (kn_lt (hp x hx) hx)
    rw [e'] at h3
    exact kn_inj hw hx (h3.symm.trans h4)
theorem k5k2 : pX9_lineUp_k5 = pX9_lineUp_k2 := by
  funext g2 g3 x2 x3
  unfold pX9_lineUp_k5 pX9_lineUp_k2
  have : ∀ n g3 x2 x3 x5, pX9_lineUp_k5_3 g2 n g3 x2 x3 x5 = pX9_lineUp_k2_3 g2 n g3 x2 x3 x5 := by
    intro n
    induction n with
    | zero => intro g3 x2 x3 x5; rfl
    | succ n ih => intro g3 x2 x3 x5; simp only [pX9_lineUp_k5_3, pX9_lineUp_k2_3, ih]
  exact this _ _ _ _ _
theorem c_place {F : gF} {b : Nat} {g2 g3 : Nat → Int32} (h10 : W ≤ 10) (hp : ∀ w, p w = true → w < W) (hg : tm p g2) {v : Nat} (hv : v < 1000) (hcv : cv F b = nI v) {x2 x3 : Int32} (hx2 : x2 = nI (kn p W)) : ∀ k n x : Nat, x + k = W → k < n → pX3_lineUp_k5_6 F b g2 n g3 x2 x3 (if v < x ∧ p v = true then nI (kn p v) else -nI 1) (nI (kn p x)) = pX3_lineUp_k5_33 F b g2 g3 x2 x3 (if p v = true then nI (kn p v) else -nI 1) := by
  subst hx2
  have hcW := kn_le p W
  intro k
  induction k with
  | zero =>
    intro n x e hn
    obtain ⟨n, rfl⟩ : ∃ j, n = j + 1 := ⟨n - 1, by omega⟩
    have e2 : x = W := by omega
    subst e2
    have e3 : (if v < x ∧ p v = true then nI (kn p v) else -nI 1) = (if p v = true then nI (kn p v) else -nI 1) := by
      by_cases q : p v = true
      · rw [if_pos q, if_pos ⟨hp v q, q⟩]
      · rw [if_neg q, if_neg (fun z => q z.2)]
    rw [e3]
    simp (disch := omega) only [pX3_lineUp_k5_6, n_le, Nat.le_refl, if_true]
  | succ k ih =>
    intro n x e hn
    by_cases q : p x = true
    · obtain ⟨n, rfl⟩ : ∃ j, n = j + 1 := ⟨n - 1, by omega⟩
      have hx2 := kn_lt (show x < W by omega) q
      have z := ih n (x + 1) (by omega) (by omega)
      rw [kn_t q] at z
      rw [← z]
      by_cases ev : x = v
      · subst ev
        rw [if_neg (show ¬ (x < x ∧ p x = true) from fun y => Nat.lt_irrefl _ y.1), if_pos (show x < x + 1 ∧ p x = true from ⟨by omega, q⟩)]
        rw [pX3_lineUp_k5_6]
        simp (disch := omega) only [n_le, n_eq, gck_in, if_neg, n_cl, hg x q, hcv, if_true, nI_1]
      · have e3 : (if v < x ∧ p v = true then nI (kn p v) else -nI 1) = (if v < x + 1 ∧ p v = true then nI (kn p v) else -nI 1) := by
          by_cases q2 : v < x ∧ p v = true
          · rw [if_pos q2, if_pos ⟨by omega, q2.2⟩]
          · rw [if_neg q2, if_neg (fun z => q2 ⟨by omega, z.2⟩)]
        rw [e3]
        generalize (if v < x + 1 ∧ p v = true then nI (kn p v) else -nI 1) = pz
        rw [pX3_lineUp_k5_6]
        simp (disch := omega) only [n_le, n_eq, gck_in, if_neg, n_cl, hg x q, hcv, nI_1]
    · have z := ih n (x + 1) (by omega) (by omega)
      rw [kn_f q] at z
      rw [← z]
      have e3 : (if v < x ∧ p v = true then nI (kn p v) else -nI 1) = (if v < x + 1 ∧ p v = true then nI (kn p v) else -nI 1) := by
        by_cases q2 : v < x ∧ p v = true
        · rw [if_pos q2, if_pos ⟨by omega, q2.2⟩]
        · rw [if_neg q2, if_neg (fun z => q2 ⟨by
            by_cases ev : v = x
            · subst ev; exact absurd z.2 q
            · omega, z.2⟩)]
      rw [e3]
theorem c_keep64 {F : gF} {b : Nat} {g2 : Nat → Int32} {N y P : Nat} (hN : N ≤ 9) (hy : y < 1000) (hP : P ≤ 10) : ∀ k n i : Nat, ∀ g3 : Nat → Int32, i + k = N → k < n → ∃ f, pX3_lineUp_k5_64 F b g2 n g3 (nI y) (nI P) (nI N) (nI i) = some f ∧ ∀ j, f j = if i + 1 ≤ j ∧ (j < N + 1) then g2 (if (y + (j - 1)) % N < P then (y + (j - 1)) % N else (y + (j - 1)) % N + 1) else g3 j := by
  intro k
  induction k with
  | zero =>
    intro n i g3 e hn
    obtain ⟨n, rfl⟩ : ∃ j, n = j + 1 := ⟨n - 1, by omega⟩
    have e2 : i = N := by omega
    subst e2
    refine ⟨g3, ?_, fun j => by rw [if_neg (by omega)]⟩
    simp (disch := omega) only [pX3_lineUp_k5_64, n_lit, nI_add, nI_1, n_cl, gck_in, gck_t, gck_T, gnm_e, gbd_s, if_true, if_false, if_pos, if_neg, n_le, n_lt, n_eq, Nat.add_zero, Nat.zero_add, Nat.le_refl, if_true]
  | succ k ih =>
    intro n i g3 e hn
    obtain ⟨n, rfl⟩ : ∃ j, n = j + 1 := ⟨n - 1, by omega⟩
    have hm := Nat.mod_lt (y + i) (show 0 < N by omega)
    obtain ⟨f, h1, h2⟩ := ih n (i + 1) (upd g3 (i + 1) (g2 (if (y + i) % N < P then (y + i) % N else (y + i) % N + 1))) (by omega) (by omega)
    refine ⟨f, ?_, st_put (P := fun j => j < N + 1) (V := fun j => g2 (if (y + (j - 1)) % N < P then (y + (j - 1)) % N else (y + (j - 1)) % N + 1)) h2 (by omega) rfl⟩
    rw [← h1]
    by_cases q : (y + i) % N < P
    · simp (disch := omega) only [pX3_lineUp_k5_64, n_lit, nI_add, nI_1, n_cl, gck_in, gck_t, gck_T, gnm_e, gbd_s, if_true, if_false, if_pos, if_neg, n_le, n_lt, n_eq, Nat.add_zero, Nat.zero_add, pk_rem]
    · simp (disch := omega) only [pX3_lineUp_k5_64, n_lit, nI_add, nI_1, n_cl, gck_in, gck_t, gck_T, gnm_e, gbd_s, if_true, if_false, if_pos, if_neg, n_le, n_lt, n_eq, Nat.add_zero, Nat.zero_add, pk_rem]
theorem c_keep {F : gF} {b : Nat} {g2 : Nat → Int32} (h10 : W ≤ 10) (hp : ∀ w, p w = true → w < W) (hg : tm p g2) {y v : Nat} (hy : y < 1000) (hv : v < 1000) (hcv : cv F b = nI v) (g3 : Nat → Int32) : ∃ f, pX3_lineUp_k5 F b g2 g3 (nI (kn p W)) (nI y) = some f ∧ LN W p (fun w => if p v = true then (if w = v then 0 else 1 + ton y (kn p W - 1) (kn (px p v) w)) else ton y (kn p W) (kn p w)) f := by
  have hcW := kn_le p W
  have e0 : pX3_lineUp_k5 F b g2 g3 (nI (kn p W)) (nI y) = pX3_lineUp_k5_33 F b g2 g3 (nI (kn p W)) (nI y) (if p v = true then nI (kn p v) else -nI 1) := by
    unfold pX3_lineUp_k5
    have z := c_place (F := F) (b := b) (g3 := g3) (x3 := nI y) h10 hp hg hv hcv rfl W 1000 0 (by omega) (by omega)
    rw [if_neg (show ¬ (v < 0 ∧ p v = true) from fun z => Nat.not_lt_zero _ z.1)] at z
    exact z
  rw [e0]
  by_cases q : p v = true
  · have hvW := hp v q
    have hv2 := kn_lt hvW q
    have hpv : ∀ w, w ≤ W → (w ≤ v → kn (px p v) w = kn p w) ∧ (v < w → kn (px p v) w + 1 = kn p w) := fun w hw => by
      have h2 := kn_two (p := p) (a := px p v) (b := fun x => decide (x = v)) (n := w) (fun x _ => by
        unfold px
        by_cases e : x = v
        · subst e; simp [q]
        · simp [e])
      refine ⟨fun h => ?_, fun h => ?_⟩
      · rw [kn_zero (p := fun x => decide (x = v)) (fun x hx => by simp; omega)] at h2; omega
      · rw [kn_one h] at h2; omega
    have hpx : ∀ w, p w = true → w ≠ v → px p v w = true := fun w h1 h2 => by simp [px, h1, h2]
    have hlt : ∀ w, p w = true → w ≠ v → kn (px p v) w < kn p W - 1 := fun w h1 h2 => by
      have := kn_lt (p := px p v) (hp w h1) (hpx w h1 h2)
      have := (hpv W (Nat.le_refl _)).2 hvW
      omega
    have hsk : ∀ w, p w = true → w ≠ v → (if kn (px p v) w < kn p v then kn (px p v) w else kn (px p v) w + 1) = kn p w := fun w h1 h2 => by
      by_cases e : w < v
      · have h3 := (hpv w (by have := hp w h1; omega)).1 (by omega)
        have h4 := kn_lt e h1
        rw [h3, if_pos h4]
      · have h3 := (hpv w (by have := hp w h1; omega)).2 (by omega)
        have h4 := kn_lt (show v < w by omega) q
        rw [if_neg (by omega), h3]
    obtain ⟨f, h1, h2⟩ := c_keep64 (F := F) (b := b) (g2 := g2) (N := kn p W - 1) (y := y) (P := kn p v) (by omega) hy (by omega) (kn p W - 1) 1000 0 (upd g3 0 (nI v)) (by omega) (by omega)
    refine ⟨f, ?_, fun w hw => ?_, fun i hi => ?_, fun w x hw hx e => ?_⟩
    · rw [if_pos q]
      unfold pX3_lineUp_k5_33
      simp (disch := omega) only [n_lit, nI_add, nI_1, n_cl, gck_in, gck_t, gck_T, gnm_e, gbd_s, if_true, if_false, if_pos, if_neg, n_le, n_lt, n_eq, Nat.add_zero, Nat.zero_add, hcv, n_sub, h1]
    · simp only [if_pos q]
      by_cases ew : w = v
      · subst ew
        rw [if_pos rfl]
        refine ⟨by omega, ?_⟩
        rw [h2, if_neg (by omega), pk_us]
      · rw [if_neg ew]
        have hl := hlt w hw ew
        have ht := ton_lt (y := y) (n := kn p W - 1) (i := kn (px p v) w) (by omega)
        refine ⟨by omega, ?_⟩
        rw [h2, if_pos ⟨by omega, by omega⟩, show 1 + ton y (kn p W - 1) (kn (px p v) w) - 1 = ton y (kn p W - 1) (kn (px p v) w) from by omega, ton_to hl, hsk w hw ew]
        exact hg w hw
    · by_cases e0 : i = 0
      · subst e0
        exact ⟨v, q, by simp only [if_pos q]; rw [if_pos trivial]⟩
      · have hj := Nat.mod_lt (y + (i - 1)) (show 0 < kn p W - 1 by omega)
        obtain ⟨w, z1, z2, z3⟩ := kn_ex (p := p) (n := W) (i := if (y + (i - 1)) % (kn p W - 1) < kn p v then (y + (i - 1)) % (kn p W - 1) else (y + (i - 1)) % (kn p W - 1) + 1) (by split <;> omega)
        have ew : w ≠ v := fun z => by
          have z4 := z3
          rw [z] at z4
          split at z4 <;> omega
        refine ⟨w, z2, ?_⟩
        simp only [if_pos q]
        rw [if_neg ew]
        have h4 := hsk w z2 ew
        rw [z3] at h4
        have h5 : kn (px p v) w = (y + (i - 1)) % (kn p W - 1) := by
          split at h4 <;> split at h4 <;> omega
        rw [h5, ton_of (by omega)]
        omega
    · simp only [if_pos q] at e
      by_cases ew : w = v
      · by_cases ex : x = v
        · rw [ew, ex]
        · rw [if_pos ew, if_neg ex] at e; omega
      · by_cases ex : x = v
        · rw [if_neg ew, if_pos ex] at e; omega
        · rw [if_neg ew, if_neg ex] at e
          have h3 := ton_to (y := y) (hlt w hw ew)
          have h4 := ton_to (y := y) (hlt x hx ex)
          rw [show ton y (kn p W - 1) (kn (px p v) w) = ton y (kn p W - 1) (kn (px p v) x) from by omega] at h3
          exact kn_inj (hpx w hw ew) (hpx x hx ex) (h3.symm.trans h4)
  · obtain ⟨f, h1, h2⟩ := c_turn h10 hp hg hy g3
    refine ⟨f, ?_, ?_⟩
    · rw [if_neg q]
      unfold pX3_lineUp_k5_33
      have hng : ¬ (nI 0 : Int32) ≤ -nI 1 := by decide
      simp only [n_lit, if_neg hng, k5k2, h1, gbd_s]
    · simp only [if_neg q]
      exact h2
end TEAMC
