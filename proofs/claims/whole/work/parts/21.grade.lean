/-! PURE SIDE: the grades of a team, told once; the reference gives them -/
def gb (x0 : Int32) : Int32 := if x0 < 80 then if x0 < 60 then if x0 < 40 then if x0 < 20 then 1 else 2 else 3 else 4 else 5
theorem gb_r (x : Int32) : pX12_gradeBy x = some (gb x) := by unfold pX12_gradeBy gb; simp only [apply_ite some]
theorem gb_c (x : Int32) : pX1_byMark x = some (gb x) := by unfold pX1_byMark gb; simp only [apply_ite some]
theorem gb_5 (x : Int32) : gb x = nI 5 ↔ ¬ x < 80 := by
  unfold gb
  by_cases h : x < 80
  · rw [if_pos h]
    constructor
    · intro z
      exfalso
      by_cases h1 : x < 60
      · rw [if_pos h1] at z
        by_cases h2 : x < 40
        · rw [if_pos h2] at z
          by_cases h3 : x < 20
          · rw [if_pos h3] at z; exact absurd z (by decide)
          · rw [if_neg h3] at z; exact absurd z (by decide)
        · rw [if_neg h2] at z; exact absurd z (by decide)
      · rw [if_neg h1] at z; exact absurd z (by decide)
    · exact fun z => absurd h z
  · rw [if_neg h]; exact ⟨fun _ => h, fun _ => rfl⟩
/-- x stands ahead of w in the line from the least mark on -/
def bf (m : Nat → Int32) (w x : Nat) : Bool := decide (m x < m w) || (decide (m x = m w) && decide (w < x))
def pl (W : Nat) (p : Nat → Bool) (m : Nat → Int32) (w : Nat) : Nat := kn (fun x => p x && bf m w x) W
def ton (y n i : Nat) : Nat := (i + n - y % n) % n
def px (p : Nat → Bool) (v : Nat) (x : Nat) : Bool := p x && !decide (x = v)
def lp (W : Nat) (p : Nat → Bool) (m : Nat → Int32) (kd : Int32) (v y w : Nat) : Nat :=
  if kd = nI 5 ∧ p v = true then (if w = v then 0 else 1 + ton y (kn p W - 1) (kn (px p v) w)) else if kd = nI 2 ∨ kd = nI 5 then ton y (kn p W) (kn p w) else pl W p m w
theorem lp_k {W : Nat} {p : Nat → Bool} {m : Nat → Int32} {kd : Int32} {v y : Nat} (h1 : kd = nI 5) (h2 : p v = true) : lp W p m kd v y v = 0 := by
  unfold lp; rw [if_pos ⟨h1, h2⟩, if_pos rfl]
theorem lp_k2 {W : Nat} {p : Nat → Bool} {m : Nat → Int32} {kd : Int32} {v y w : Nat} (h1 : kd = nI 5) (h2 : p v = true) (h3 : w ≠ v) : lp W p m kd v y w = 1 + ton y (kn p W - 1) (kn (px p v) w) := by
  unfold lp; rw [if_pos ⟨h1, h2⟩, if_neg h3]
theorem lp_t {W : Nat} {p : Nat → Bool} {m : Nat → Int32} {kd : Int32} {v y w : Nat} (h1 : ¬ (kd = nI 5 ∧ p v = true)) (h2 : kd = nI 2 ∨ kd = nI 5) : lp W p m kd v y w = ton y (kn p W) (kn p w) := by
  unfold lp; rw [if_neg h1, if_pos h2]
theorem lp_p {W : Nat} {p : Nat → Bool} {m : Nat → Int32} {kd : Int32} {v y w : Nat} (h1 : kd ≠ nI 2) (h2 : kd ≠ nI 5) : lp W p m kd v y w = pl W p m w := by
  unfold lp; rw [if_neg (fun z => h2 z.1), if_neg (fun z => z.elim h1 h2)]
def g5 (W : Nat) (p : Nat → Bool) (m : Nat → Int32) (f w : Nat) : Int32 := if gb (m w) = nI 5 then (if pl W p m w + f < kn p W then nI 4 else nI 5) else gb (m w)
def GR (W : Nat) (p : Nat → Bool) (m : Nat → Int32) (f o : Nat) (kd : Int32) (v y w : Nat) : Int32 := if lp W p m kd v y w < o then nI 1 else g5 W p m f w
def pT (s : Nat → Int32) (W : Nat) (c : Int32) (w : Nat) : Bool := decide (w < W) && decide (s (31 + w) = c)
theorem pT_iff {s : Nat → Int32} {W : Nat} {c : Int32} {w : Nat} : pT s W c w = true ↔ w < W ∧ s (31 + w) = c := by simp [pT]
theorem pT_lt {s : Nat → Int32} {W : Nat} {c : Int32} (w : Nat) (h : pT s W c w = true) : w < W := (pT_iff.mp h).1
theorem bf_three {m : Nat → Int32} {w x : Nat} (h : x ≠ w) : bf m w x = true ∧ bf m x w = false ∨ bf m w x = false ∧ bf m x w = true := by
  simp only [bf, Bool.or_eq_true, Bool.and_eq_true, decide_eq_true_eq, Bool.or_eq_false_iff, Bool.and_eq_false_iff, decide_eq_false_iff_not, n_ltI, n_eqI]
  omega
theorem bf_self {m : Nat → Int32} {w : Nat} : bf m w w = false := by
  simp only [bf, Bool.or_eq_false_iff, Bool.and_eq_false_iff, decide_eq_false_iff_not, n_ltI]
  omega
/-- whom the reference counts ahead of a five -/
def ah (p : Nat → Bool) (m : Nat → Int32) (w x : Nat) : Bool := p x && (decide (gb (m x) = nI 5) && (decide (m w < m x) || (decide (m x = m w) && decide (x < w))))
theorem ah_pl {W : Nat} {p : Nat → Bool} {m : Nat → Int32} {w : Nat} (hw : p w = true) (hW : w < W) (h5 : gb (m w) = nI 5) : kn (ah p m w) W + pl W p m w + 1 = kn p W := by
  have e1 : kn (ah p m w) W = kn (fun x => p x && bf m x w) W := by
    apply kn_congr
    intro x _
    simp only [ah, bf]
    congr 1
    by_cases e : gb (m x) = nI 5
    · simp only [e, decide_true, Bool.true_and]
      congr 1
      simp only [eq_comm]
    · have q1 := (gb_5 (m w)).mp h5
      have q2 : m x < 80 := by
        by_cases z : m x < 80
        · exact z
        · exact absurd ((gb_5 _).mpr z) e
      simp only [e, decide_false, Bool.false_and]
      rw [eq_comm]
      simp only [Bool.or_eq_false_iff, Bool.and_eq_false_iff, decide_eq_false_iff_not, n_ltI, n_eqI] at q1 q2 ⊢
      omega
  rw [e1, pl]
  have e2 : kn (fun x => p x && !decide (x = w)) W + kn (fun x => decide (x = w)) W = kn p W := by
    refine (kn_two (fun x _ => ?_)).symm
    by_cases e : x = w
    · subst e; simp [hw]
    · simp [e]
  have e3 : kn (fun x => p x && bf m x w) W + kn (fun x => p x && bf m w x) W = kn (fun x => p x && !decide (x = w)) W := by
    refine (kn_two (fun x _ => ?_)).symm
    by_cases e : x = w
    · subst e; simp [bf_self]
    · rcases bf_three (m := m) e with ⟨z1, z2⟩ | ⟨z1, z2⟩ <;> simp [z1, z2, e]
  rw [kn_one hW] at e2
  omega
theorem n_wrap {a b c : Nat} (h : b ≤ a + c) : nI a - nI b + nI c = nI (a + c - b) := by
  rw [Int32.sub_eq_add_neg, Int32.add_assoc, Int32.add_comm (-nI b), ← Int32.add_assoc, ← Int32.sub_eq_add_neg, nI_add, pk_sub h]
theorem ton_lt {y n i : Nat} (h : 0 < n) : ton y n i < n := Nat.mod_lt _ h
theorem ton_r {y n i : Nat} (hn : 0 < n) (hn2 : n < 1000) (hi : i < 1000) (hy : y < 1000) : ((nI i - (nI y - nI y / nI n * nI n)) + nI n) - ((nI i - (nI y - nI y / nI n * nI n)) + nI n) / nI n * nI n = nI (ton y n i) := by
  have := Nat.mod_lt y hn
  rw [pk_rem (by omega) hn (by omega), n_wrap (by omega), pk_rem (by omega) hn (by omega)]
  rfl
theorem vb_1 : vp_nar .boolean (nI 1) = nI 1 := by decide
theorem vb_0 : vp_nar .boolean (nI 0) = nI 0 := by decide
section REF
variable {s a12 a13 a15 : Nat → Int32} {W : Nat} {p : Nat → Bool}
def isIn (W : Nat) (p : Nat → Bool) (a15 : Nat → Int32) : Prop := ∀ w, w < W → a15 w = if p w = true then nI 1 else nI 0
theorem r_inTeam (hW : s 51 = nI W) (h10 : W ≤ 10) (hI : isIn W p a15) : ∀ k n x : Nat, x + k = W → k < n → pX12_inTeam_4 s a15 n (nI (kn p x)) (nI x) = some (nI (kn p W)) := by
  intro k
  induction k with
  | zero =>
    intro n x e hn
    obtain ⟨n, rfl⟩ : ∃ j, n = j + 1 := ⟨n - 1, by omega⟩
    have e2 : x = W := by omega
    subst e2
    simp (disch := omega) only [pX12_inTeam_4, n_lit, nI_add, nI_1, n_cl, gck_in, gck_t, gck_T, gnm_e, gbd_s, if_true, if_false, if_pos, if_neg, n_le, n_lt, n_eq, Nat.add_zero, Nat.zero_add, hW, Nat.le_refl, if_true]
  | succ k ih =>
    intro n x e hn
    obtain ⟨n, rfl⟩ : ∃ j, n = j + 1 := ⟨n - 1, by omega⟩
    have hc := kn_le p x
    have hi := hI x (by omega)
    by_cases q : p x = true
    · rw [if_pos q] at hi
      have z := ih n (x + 1) (by omega) (by omega)
      rw [kn_t q] at z
      simp (disch := omega) only [pX12_inTeam_4, n_lit, nI_add, nI_1, n_cl, gck_in, gck_t, gck_T, gnm_e, gbd_s, if_true, if_false, if_pos, if_neg, n_le, n_lt, n_eq, Nat.add_zero, Nat.zero_add, hW, hi, z]
    · rw [if_neg q] at hi
      have z := ih n (x + 1) (by omega) (by omega)
      rw [kn_f q] at z
      simp (disch := omega) only [pX12_inTeam_4, n_lit, nI_add, nI_1, n_cl, gck_in, gck_t, gck_T, gnm_e, gbd_s, if_true, if_false, if_pos, if_neg, n_le, n_lt, n_eq, Nat.add_zero, Nat.zero_add, hW, hi, z]
theorem r_size (hW : s 51 = nI W) (h10 : W ≤ 10) (hI : isIn W p a15) : pX12_inTeam s a15 = some (nI (kn p W)) := by
  unfold pX12_inTeam
  exact r_inTeam hW h10 hI W 1000 0 (by omega) (by omega)
theorem r_share (hW : s 51 = nI W) (h10 : W ≤ 10) (hI : isIn W p a15) {f : Nat} (hf : f ≤ 99) : pX12_shareOf s a15 (nI f) = some (nI (f * kn p W / 10)) := by
  have hc := kn_le p W
  have hm : f * kn p W ≤ 99 * 10 := Nat.mul_le_mul hf (by omega)
  unfold pX12_shareOf
  rw [r_size hW h10 hI, gbd_s, n_lit, pk_mul, pk_div (by omega) (by decide) (by decide)]
theorem r_fives_in (hW : s 51 = nI W) (h10 : W ≤ 10) (hI : isIn W p a15) {w f : Nat} (hw : w < W) {k2} {a13 : Nat → Int32} : ∀ k n x : Nat, x + k = W → k < n → pX12_givesFives_at13_35 k2 s a12 a15 n a13 (nI f) (nI w) (nI (kn (ah p a12 w) x)) (nI x) = pX12_givesFives_at13_137 k2 s a12 a15 a13 (nI f) (nI w) (nI (kn (ah p a12 w) W)) := by
  intro k
  induction k with
  | zero =>
    intro n x e hn
    obtain ⟨n, rfl⟩ : ∃ j, n = j + 1 := ⟨n - 1, by omega⟩
    have e2 : x = W := by omega
    subst e2
    simp (disch := omega) only [pX12_givesFives_at13_35, n_lit, nI_add, nI_1, n_cl, gck_in, gck_t, gck_T, gnm_e, gbd_s, if_true, if_false, if_pos, if_neg, n_le, n_lt, n_eq, Nat.add_zero, Nat.zero_add, hW, Nat.le_refl, if_true]
  | succ k ih =>
    intro n x e hn
    obtain ⟨n, rfl⟩ : ∃ j, n = j + 1 := ⟨n - 1, by omega⟩
    have hc := kn_le (ah p a12 w) x
    have hi := hI x (by omega)
    have z := ih n (x + 1) (by omega) (by omega)
    by_cases q : ah p a12 w x = true
    · rw [kn_t q] at z
      simp only [ah, Bool.and_eq_true, Bool.or_eq_true, decide_eq_true_eq] at q
      obtain ⟨q1, q2, q3⟩ := q
      rw [if_pos q1] at hi
      by_cases q4 : a12 w < a12 x
      · simp (disch := omega) only [pX12_givesFives_at13_35, pX12_givesFives_at13_76, n_lit, nI_add, nI_1, n_cl, gck_in, gck_t, gck_T, gnm_e, gbd_s, if_true, if_false, if_pos, if_neg, n_le, n_lt, n_eq, Nat.add_zero, Nat.zero_add, hW, hi, gb_r, q2, if_true, if_pos q4, z]
      · obtain ⟨q5, q6⟩ := q3.resolve_left q4
        simp (disch := omega) only [pX12_givesFives_at13_35, pX12_givesFives_at13_76, n_lit, nI_add, nI_1, n_cl, gck_in, gck_t, gck_T, gnm_e, gbd_s, if_true, if_false, if_pos, if_neg, n_le, n_lt, n_eq, Nat.add_zero, Nat.zero_add, hW, hi, gb_r, q2, if_true, if_neg q4, if_pos q5, z]
    · rw [kn_f q] at z
      simp only [ah, Bool.and_eq_true, Bool.or_eq_true, decide_eq_true_eq, not_and, not_or] at q
      by_cases q1 : p x = true
      · rw [if_pos q1] at hi
        by_cases q2 : gb (a12 x) = nI 5
        · obtain ⟨q4, q5⟩ := q q1 q2
          by_cases q6 : a12 x = a12 w
          · have q7 := q5 q6
            simp (disch := omega) only [pX12_givesFives_at13_35, pX12_givesFives_at13_76, n_lit, nI_add, nI_1, n_cl, gck_in, gck_t, gck_T, gnm_e, gbd_s, if_true, if_false, if_pos, if_neg, n_le, n_lt, n_eq, Nat.add_zero, Nat.zero_add, hW, hi, gb_r, q2, if_true, if_neg q4, if_pos q6, z]
          · simp (disch := omega) only [pX12_givesFives_at13_35, pX12_givesFives_at13_76, n_lit, nI_add, nI_1, n_cl, gck_in, gck_t, gck_T, gnm_e, gbd_s, if_true, if_false, if_pos, if_neg, n_le, n_lt, n_eq, Nat.add_zero, Nat.zero_add, hW, hi, gb_r, q2, if_true, if_neg q4, if_neg q6, z]
        · simp (disch := omega) only [pX12_givesFives_at13_35, pX12_givesFives_at13_76, n_lit, nI_add, nI_1, n_cl, gck_in, gck_t, gck_T, gnm_e, gbd_s, if_true, if_false, if_pos, if_neg, n_le, n_lt, n_eq, Nat.add_zero, Nat.zero_add, hW, hi, gb_r, if_neg q2, if_true, z]
      · rw [if_neg q1] at hi
        simp (disch := omega) only [pX12_givesFives_at13_35, pX12_givesFives_at13_76, n_lit, nI_add, nI_1, n_cl, gck_in, gck_t, gck_T, gnm_e, gbd_s, if_true, if_false, if_pos, if_neg, n_le, n_lt, n_eq, Nat.add_zero, Nat.zero_add, hW, hi, if_true, z]
/-- a step of a loop that may put one place -/
theorem st_put {a b : Nat → Int32} {x : Nat} {v : Int32} {P : Nat → Prop} {V : Nat → Int32} [DecidablePred P] (hb : ∀ w, b w = if x + 1 ≤ w ∧ P w then V w else upd a x v w) (hx : P x) (hv : v = V x) : ∀ w, b w = if x ≤ w ∧ P w then V w else a w := by
  intro w
  rw [hb w]
  by_cases ew : w = x
  · subst ew
    rw [pk_us, if_neg (by omega), if_pos ⟨Nat.le_refl _, hx⟩, hv]
  · rw [pk_un ew]
    by_cases c1 : x + 1 ≤ w ∧ P w
    · rw [if_pos c1, if_pos ⟨by omega, c1.2⟩]
    · rw [if_neg c1, if_neg (fun z => c1 ⟨by omega, z.2⟩)]
theorem st_same {a b : Nat → Int32} {x : Nat} {P : Nat → Prop} {V : Nat → Int32} [DecidablePred P] (hb : ∀ w, b w = if x + 1 ≤ w ∧ P w then V w else a w) (hx : ¬ P x) : ∀ w, b w = if x ≤ w ∧ P w then V w else a w := by
  intro w
  rw [hb w]
  by_cases c1 : x + 1 ≤ w ∧ P w
  · rw [if_pos c1, if_pos ⟨by omega, c1.2⟩]
  · refine (if_neg c1).trans (if_neg (fun z => ?_)).symm
    by_cases ew : w = x
    · subst ew; exact hx z.2
    · exact c1 ⟨by omega, z.2⟩
theorem upd_self (a : Nat → Int32) (x : Nat) : upd a x (a x) = a := by
  funext w
  by_cases e : w = x
  · subst e; exact pk_us
  · exact pk_un e
theorem r_fives (hW : s 51 = nI W) (h10 : W ≤ 10) (hI : isIn W p a15) {f : Nat} (hf : f < 1000) {g13 : Nat → Int32} : ∀ k n x : Nat, ∀ a13 : Nat → Int32, x + k = W → k < n → (∀ w, x ≤ w → a13 w = g13 w) → ∃ b13, pX12_givesFives_at13_2 s a12 a15 n a13 (nI f) (nI x) = some b13 ∧ ∀ w, b13 w = if x ≤ w ∧ (w < W ∧ p w = true ∧ g13 w = nI 5) then (if kn (ah p a12 w) W < f then nI 5 else nI 4) else a13 w := by
  intro k
  induction k with
  | zero =>
    intro n x a13 e hn hg
    obtain ⟨n, rfl⟩ : ∃ j, n = j + 1 := ⟨n - 1, by omega⟩
    have e2 : x = W := by omega
    subst e2
    refine ⟨a13, ?_, fun w => ?_⟩
    · simp (disch := omega) only [pX12_givesFives_at13_2, n_lit, nI_add, nI_1, n_cl, gck_in, gck_t, gck_T, gnm_e, gbd_s, if_true, if_false, if_pos, if_neg, n_le, n_lt, n_eq, Nat.add_zero, Nat.zero_add, hW, Nat.le_refl]
    · rw [if_neg (by omega)]
  | succ k ih =>
    intro n x a13 e hn hg
    obtain ⟨n, rfl⟩ : ∃ j, n = j + 1 := ⟨n - 1, by omega⟩
    have hi := hI x (by omega)
    have hc := kn_le (ah p a12 x) W
    by_cases q : p x = true
    · rw [if_pos q] at hi
      by_cases q5 : g13 x = nI 5
      · have hin := r_fives_in (a12 := a12) (f := f) hW h10 hI (show x < W by omega) (k2 := pX12_givesFives_at13_2 s a12 a15 n) (a13 := a13) W 1000 0 (by omega) (by omega)
        rw [show kn (ah p a12 x) 0 = 0 from rfl] at hin
        by_cases q6 : kn (ah p a12 x) W < f
        · obtain ⟨b, h1, h2⟩ := ih n (x + 1) (upd a13 x (nI 5)) (by omega) (by omega) (fun w hw => by rw [pk_un (by omega)]; exact hg w (by omega))
          refine ⟨b, ?_, st_put (P := fun w => w < W ∧ p w = true ∧ g13 w = nI 5) (V := fun w => if kn (ah p a12 w) W < f then nI 5 else nI 4) h2 ⟨by omega, q, q5⟩ (if_pos q6).symm⟩
          rw [← h1]
          simp (disch := omega) only [pX12_givesFives_at13_2, pX12_givesFives_at13_137, n_lit, nI_add, nI_1, n_cl, gck_in, gck_t, gck_T, gnm_e, gbd_s, if_true, if_false, if_pos, if_neg, n_le, n_lt, n_eq, Nat.add_zero, Nat.zero_add, hW, hi, hg x (Nat.le_refl _), q5, hin]
        · obtain ⟨b, h1, h2⟩ := ih n (x + 1) (upd a13 x (nI 4)) (by omega) (by omega) (fun w hw => by rw [pk_un (by omega)]; exact hg w (by omega))
          refine ⟨b, ?_, st_put (P := fun w => w < W ∧ p w = true ∧ g13 w = nI 5) (V := fun w => if kn (ah p a12 w) W < f then nI 5 else nI 4) h2 ⟨by omega, q, q5⟩ (if_neg q6).symm⟩
          rw [← h1]
          simp (disch := omega) only [pX12_givesFives_at13_2, pX12_givesFives_at13_137, n_lit, nI_add, nI_1, n_cl, gck_in, gck_t, gck_T, gnm_e, gbd_s, if_true, if_false, if_pos, if_neg, n_le, n_lt, n_eq, Nat.add_zero, Nat.zero_add, hW, hi, hg x (Nat.le_refl _), q5, hin]
      · obtain ⟨b, h1, h2⟩ := ih n (x + 1) a13 (by omega) (by omega) (fun w hw => hg w (by omega))
        refine ⟨b, ?_, st_same (P := fun w => w < W ∧ p w = true ∧ g13 w = nI 5) (V := fun w => if kn (ah p a12 w) W < f then nI 5 else nI 4) h2 (fun z => q5 z.2.2)⟩
        rw [← h1]
        simp (disch := omega) only [pX12_givesFives_at13_2, n_lit, nI_add, nI_1, n_cl, gck_in, gck_t, gck_T, gnm_e, gbd_s, if_true, if_false, if_pos, if_neg, n_le, n_lt, n_eq, Nat.add_zero, Nat.zero_add, hW, hi, hg x (Nat.le_refl _), if_neg q5]
    · rw [if_neg q] at hi
      obtain ⟨b, h1, h2⟩ := ih n (x + 1) a13 (by omega) (by omega) (fun w hw => hg w (by omega))
      refine ⟨b, ?_, st_same (P := fun w => w < W ∧ p w = true ∧ g13 w = nI 5) (V := fun w => if kn (ah p a12 w) W < f then nI 5 else nI 4) h2 (fun z => q z.2.1)⟩
      rw [← h1]
      simp (disch := omega) only [pX12_givesFives_at13_2, n_lit, nI_add, nI_1, n_cl, gck_in, gck_t, gck_T, gnm_e, gbd_s, if_true, if_false, if_pos, if_neg, n_le, n_lt, n_eq, Nat.add_zero, Nat.zero_add, hW, hi]
end REF
