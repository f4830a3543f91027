/-! PURE SIDE: a house's steps on both sides -/
theorem z_nlt0 {a : Nat} (h : a < 2147483648) : (-nI a < nI 0) = (0 < a) := by
  rw [n_ltI, n_neg h, n_ti (by omega)]; exact propext ⟨fun z => by omega, fun z => by omega⟩
theorem z_nle {a b : Nat} (h : a < 2147483648) (h2 : b < 2147483648) : (-nI a ≤ -nI b) = (b ≤ a) := by
  rw [n_leI, n_neg h, n_neg h2]; exact propext ⟨fun z => by omega, fun z => by omega⟩
theorem z_neq {a b : Nat} (h : a < 2147483648) (h2 : b < 2147483648) : (-nI a = -nI b) = (a = b) := by
  rw [n_eqI, n_neg h, n_neg h2]; exact propext ⟨fun z => by omega, fun z => by omega⟩
theorem z_peq {a b : Nat} (h : a < 2147483648) (h2 : b < 2147483648) (h3 : 0 < b) : (nI a = -nI b) = False := by
  rw [n_eqI, n_ti h, n_neg h2]; exact propext ⟨fun z => by omega, fun z => z.elim⟩
theorem z_sublt {x g : Nat} (h : x < 1000000) (h2 : g < 1000000) : (nI x - nI 1 < nI g) = (x < g + 1) := by
  rw [n_ltI, pk_sub_toInt (by omega) (by omega), n_ti (by omega)]
  exact propext ⟨fun z => by omega, fun z => by omega⟩
theorem z_neqT (a : Nat) : (-nI a = -nI a) = True := eq_true rfl
theorem z_neqF {a b : Nat} (h : a < b ∨ b < a) (ha : a < 2147483648) (hb : b < 2147483648) : (-nI a = -nI b) = False := by rw [z_neq ha hb]; exact eq_false (by omega)
theorem z_nlt0T {a : Nat} (h : 0 < a) (h2 : a < 2147483648) : (-nI a < nI 0) = True := by rw [z_nlt0 h2]; exact eq_true h
theorem z_nleT {a b : Nat} (h : b ≤ a) (h2 : a < 2147483648) : (-nI a ≤ -nI b) = True := by rw [z_nle h2 (by omega)]; exact eq_true h
theorem z_nleF {a b : Nat} (h : a < b) (h2 : b < 2147483648) : (-nI a ≤ -nI b) = False := by rw [z_nle (by omega) h2]; exact eq_false (by omega)
theorem z_subltT {x g : Nat} (h : x < 1000000) (h2 : g < 1000000) (h3 : x < g + 1) : (nI x - nI 1 < nI g) = True := by rw [z_sublt h h2]; exact eq_true h3
theorem z_subltF {x g : Nat} (h : x < 1000000) (h2 : g < 1000000) (h3 : g < x) : (nI x - nI 1 < nI g) = False := by rw [z_sublt h h2]; exact eq_false (by omega)
theorem z_g1 : ∀ x, x < 100 → -nI (200 + x) - -nI 200 = -nI x := by decide
theorem z_g2 : ∀ x, x < 100 → -nI 10 - -nI (10 + x) = nI x := by decide
theorem z_or0 (x : Int32) : x ||| nI 0 = x := Int32.or_zero
theorem z_shl {n : Nat} (h : n < 1073741824) : nI n <<< (nI 1 &&& nI 31) = nI (n * 2) := pk_shlN _ 1 (by decide) (by omega)
theorem z_shr1 {n : Nat} (h : n < 2147483648) : nI n >>> (nI 1 &&& nI 31) = nI (n / 2) := pk_shrN (by omega) _ 1 (by decide)
theorem z_shr2 {n : Nat} (h : n < 2147483648) : nI n >>> (nI 2 &&& nI 31) = nI (n / 4) := pk_shrN (by omega) _ 2 (by decide)
theorem z_and1 {n : Nat} (h : n < 2147483648) : nI n &&& nI 1 = nI (n % 2) := pk_andN (by omega) 1 (by decide)
theorem z_or1 {n : Nat} (h : n < 1073741824) : nI (n * 2) ||| nI 1 = nI (n * 2 + 1) := by
  apply Int32.toBitVec_inj.mp
  apply BitVec.eq_of_toNat_eq
  rw [Int32.toBitVec_or, BitVec.toNat_or, pk_tn (by omega), pk_tn (by omega), pk_tn (by omega)]
  have := Nat.two_pow_add_eq_or_of_lt (i := 1) (b := 1) (by decide) n
  rw [Nat.pow_one, Nat.mul_comm 2 n] at this
  exact this.symm
theorem z_xor {n b : Nat} (h : n < 1073741824) (hb : b < 2) : nI (n * 2 + b) ^^^ nI 1 = nI (n * 2 + (1 - b)) := by
  apply Int32.toBitVec_inj.mp
  apply BitVec.eq_of_toNat_eq
  rw [Int32.toBitVec_xor, BitVec.toNat_xor, pk_tn (by omega), pk_tn (by omega), pk_tn (by omega)]
  apply Nat.eq_of_testBit_eq
  intro i
  rw [Nat.testBit_xor]
  cases i with
  | zero =>
    rcases (show b = 0 ∨ b = 1 by omega) with e | e <;> subst e <;> simp [Nat.testBit_zero] <;> omega
  | succ i =>
    rw [Nat.testBit_succ, Nat.testBit_succ, Nat.testBit_succ, show (n * 2 + b) / 2 = n from by omega, show (n * 2 + (1 - b)) / 2 = n from by omega]
    simp
/-- one step of a house, told by the reference (v) and by the component (a b c), at depth d -/
def sr (v a b c : Int32) (d e : Nat) : Prop :=
  (∃ w h x : Nat, w < 6 ∧ h < 3 ∧ x < 100 ∧ v = nI (w + 8 * h + 32 * x) ∧ a = nI w ∧ (h = 0 → b = nI 0 ∧ c = nI x - nI 1) ∧ (h = 1 → b = nI x ∧ c = nI x) ∧ (h = 2 → b = nI (x + 1) ∧ c = nI 1000) ∧ d < 30 ∧ e = d + 1)
  ∨ (v = -nI 1 ∧ a = -nI 1 ∧ 1 ≤ d ∧ e = d) ∨ (v = -nI 2 ∧ a = -nI 2 ∧ 2 ≤ d ∧ e + 1 = d) ∨ (v = -nI 3 ∧ a = -nI 3 ∧ 2 ≤ d ∧ e + 1 = d)
  ∨ (∃ x : Nat, x < 100 ∧ v = -nI (10 + x) ∧ a = -nI 4 ∧ b = nI x ∧ d = 1 ∧ e = 0) ∨ (∃ x : Nat, x < 100 ∧ v = -nI (200 + x) ∧ a = -nI 4 ∧ b = -nI x ∧ d = 1 ∧ e = 0)
def b1 (b : Bool) : Nat := if b = true then 1 else 0
def pb (tr : Nat → Bool) : Nat → Nat
  | 0 => 0
  | d + 1 => pb tr d * 2 + b1 (tr d)
theorem b1_lt (b : Bool) : b1 b < 2 := by unfold b1; split <;> omega
theorem pb_lt (tr : Nat → Bool) (d : Nat) : pb tr d < 2 ^ d := by
  induction d with
  | zero => show 0 < 2 ^ 0; decide
  | succ d ih => have := b1_lt (tr d); rw [pb, Nat.pow_succ]; omega
theorem pb_30 (tr : Nat → Bool) {d : Nat} (h : d ≤ 30) : pb tr d < 1073741824 := Nat.lt_of_lt_of_le (pb_lt tr d) (Nat.pow_le_pow_right (by omega) h)
theorem pb_31 (tr : Nat → Bool) {d : Nat} (h : d ≤ 29) : pb tr d < 536870912 := Nat.lt_of_lt_of_le (pb_lt tr d) (Nat.pow_le_pow_right (by omega) h)
theorem pb_congr {tr ts : Nat → Bool} {d : Nat} (h : ∀ j, j < d → tr j = ts j) : pb tr d = pb ts d := by
  induction d with
  | zero => rfl
  | succ d ih => rw [pb, pb, ih (fun j hj => h j (by omega)), h d (by omega)]
def tu (tr : Nat → Bool) (k : Nat) (b : Bool) (j : Nat) : Bool := if j = k then b else tr j
theorem tu_s {tr : Nat → Bool} {k : Nat} {b : Bool} : tu tr k b k = b := if_pos rfl
theorem tu_n {tr : Nat → Bool} {k j : Nat} {b : Bool} (h : j ≠ k) : tu tr k b j = tr j := if_neg h
theorem pb_tu {tr : Nat → Bool} {k : Nat} {b : Bool} : pb (tu tr k b) (k + 1) = pb tr k * 2 + b1 b := by
  rw [pb, tu_s, pb_congr (ts := tr) (fun j hj => tu_n (by omega))]
def ib (b : Bool) : Int32 := if b = true then nI 1 else nI 0
def tw (tr : Nat → Bool) (d : Nat) (t : Nat → Int32) : Prop := ∀ j, j < d → t j = ib (tr j)
theorem tw_put {tr : Nat → Bool} {d k : Nat} {t : Nat → Int32} {b : Bool} (h : tw tr d t) (hk : k ≤ d) : tw (tu tr k b) (k + 1) (upd t k (ib b)) := by
  intro j hj
  by_cases e : j = k
  · subst e; rw [pk_us, tu_s]
  · rw [pk_un e, tu_n e]; exact h j (by omega)
theorem vb_ib (b : Bool) : vp_nar .boolean (ib b) = ib b := by cases b <;> decide
theorem z_bit (b : Bool) (n : Nat) (h : n < 1073741824) : nI (n * 2) ||| nI (b1 b) = nI (n * 2 + b1 b) := by
  cases b with
  | false => exact z_or0 _
  | true => exact z_or1 h
theorem z_aa : ∀ a b : Bool, nI (b1 b) &&& nI (b1 a) = nI (b1 (a && b)) := by decide
theorem z_oo : ∀ a b : Bool, nI (b1 b) ||| nI (b1 a) = nI (b1 (a || b)) := by decide
theorem ib_0 : ∀ b : Bool, (ib b = nI 0) = (b = false) := by
  intro b; cases b
  · exact propext ⟨fun _ => rfl, fun _ => rfl⟩
  · exact propext ⟨fun z => absurd z (by decide), fun z => absurd z (by decide)⟩
/-- the test of a step, on both sides -/
def tt (h x g : Nat) : Bool := if h = 0 then decide (g < x) else if h = 1 then decide (g = x) else decide (x < g)
section RAISE
variable {F : gF} {b : Nat} {s f : Nat → Int32} {fr N : Nat} {D : Nat → Nat}
theorem rz_test {k7 : Int32 → Int32 → Int32 → Option Int32} {sum x4 : Int32} {P : Nat} (hP : P < 536870912) (bb : Bool) : pX2_raise_164 F b k7 f (nI P) sum x4 (ib bb) = k7 (nI (P * 2 + b1 bb)) sum (x4 + nI 1) := by
  unfold pX2_raise_164
  cases bb with
  | false =>
    rw [if_pos (show ib false = 0 from rfl)]
    simp only [n_lit, gnm_e, z_shl (show P < 1073741824 by omega), z_or0]
    rfl
  | true =>
    rw [if_neg (show ¬ ib true = 0 by decide)]
    simp only [n_lit, gnm_e, z_shl (show P < 1073741824 by omega), z_or1 (show P < 1073741824 by omega)]
    rfl
theorem c_gain {m : Nat} {P sum : Int32} {i : Nat} {x : Int32} (hN : hI F b 10 = nI N) (hi : i < N) (hNn : N ≤ hn F b) (hn2 : hn F b < 1000) (ha7 : ha F b 7 i = -nI 4) (ha8 : ha F b 8 i = x) : pX2_raise_7 F b f (m + 1) P sum (nI i) = pX2_raise_7 F b f m (nI 0) (sum + (P &&& nI 1) * x) (nI (i + 1)) := by
  simp (disch := omega) only [pX2_raise_7, n_lit, nI_add, nI_1, n_cl, gck_in, gck_t, gck_T, ↓gnm_e, gbd_s, ↓reduceIte, n_leT, n_leF, n_ltT, n_ltF, n_eqT, n_eqF, Nat.add_zero, Nat.zero_add, hN, ha7, ha8]
theorem c_test {m : Nat} {P : Nat} {sum : Int32} {i : Nat} {w h x g : Nat} (hP : P < 536870912) (hN : hI F b 10 = nI N) (hi : i < N) (hNn : N ≤ hn F b) (hn2 : hn F b < 1000) (ha7 : ha F b 7 i = nI w) (hw : w < 6) (hh : h < 3) (hx : x < 100) (h0 : h = 0 → ha F b 8 i = nI 0 ∧ ha F b 9 i = nI x - nI 1) (h1 : h = 1 → ha F b 8 i = nI x ∧ ha F b 9 i = nI x) (h2 : h = 2 → ha F b 8 i = nI (x + 1) ∧ ha F b 9 i = nI 1000) (hg : f w = nI g) (hg2 : g < 1000) : pX2_raise_7 F b f (m + 1) (nI P) sum (nI i) = pX2_raise_7 F b f m (nI (P * 2 + b1 (tt h x g))) sum (nI (i + 1)) := by
  have z1 := rz_test (F := F) (b := b) (f := f) (k7 := pX2_raise_7 F b f m) (sum := sum) (x4 := nI i) hP true
  have z0 := rz_test (F := F) (b := b) (f := f) (k7 := pX2_raise_7 F b f m) (sum := sum) (x4 := nI i) hP false
  rw [show ib true = nI 1 from rfl] at z1
  rw [show ib false = nI 0 from rfl] at z0
  rcases (show h = 0 ∨ h = 1 ∨ h = 2 by omega) with e | e | e
  · obtain ⟨e1, e2⟩ := h0 e
    subst e
    by_cases q : g < x
    · rw [show tt 0 x g = true from by simp [tt, q]]
      simp (disch := omega) only [pX2_raise_7, n_lit, nI_add, nI_1, n_cl, gck_in, gck_t, gck_T, ↓gnm_e, gbd_s, ↓reduceIte, n_leT, n_leF, n_ltT, n_ltF, n_eqT, n_eqF, Nat.add_zero, Nat.zero_add, hN, ha7, e1, e2, hg, z_peq, z_subltT, z_subltF, z1]
    · rw [show tt 0 x g = false from by simp [tt, q]]
      simp (disch := omega) only [pX2_raise_7, n_lit, nI_add, nI_1, n_cl, gck_in, gck_t, gck_T, ↓gnm_e, gbd_s, ↓reduceIte, n_leT, n_leF, n_ltT, n_ltF, n_eqT, n_eqF, Nat.add_zero, Nat.zero_add, hN, ha7, e1, e2, hg, z_peq, z_subltT, z_subltF, z0]
  · obtain ⟨e1, e2⟩ := h1 e
    subst e
    by_cases q : g = x
    · rw [show tt 1 x g = true from by simp [tt, q]]
      simp (disch := omega) only [pX2_raise_7, n_lit, nI_add, nI_1, n_cl, gck_in, gck_t, gck_T, ↓gnm_e, gbd_s, ↓reduceIte, n_leT, n_leF, n_ltT, n_ltF, n_eqT, n_eqF, Nat.add_zero, Nat.zero_add, hN, ha7, e1, e2, hg, z_peq, z1]
    · rw [show tt 1 x g = false from by simp [tt, q]]
      by_cases q2 : g < x
      · simp (disch := omega) only [pX2_raise_7, n_lit, nI_add, nI_1, n_cl, gck_in, gck_t, gck_T, ↓gnm_e, gbd_s, ↓reduceIte, n_leT, n_leF, n_ltT, n_ltF, n_eqT, n_eqF, Nat.add_zero, Nat.zero_add, hN, ha7, e1, e2, hg, z_peq, z0]
      · simp (disch := omega) only [pX2_raise_7, n_lit, nI_add, nI_1, n_cl, gck_in, gck_t, gck_T, ↓gnm_e, gbd_s, ↓reduceIte, n_leT, n_leF, n_ltT, n_ltF, n_eqT, n_eqF, Nat.add_zero, Nat.zero_add, hN, ha7, e1, e2, hg, z_peq, z0]
  · obtain ⟨e1, e2⟩ := h2 e
    subst e
    by_cases q : x < g
    · rw [show tt 2 x g = true from by simp [tt, q]]
      simp (disch := omega) only [pX2_raise_7, n_lit, nI_add, nI_1, n_cl, gck_in, gck_t, gck_T, ↓gnm_e, gbd_s, ↓reduceIte, n_leT, n_leF, n_ltT, n_ltF, n_eqT, n_eqF, Nat.add_zero, Nat.zero_add, hN, ha7, e1, e2, hg, z_peq, z1]
    · rw [show tt 2 x g = false from by simp [tt, q]]
      simp (disch := omega) only [pX2_raise_7, n_lit, nI_add, nI_1, n_cl, gck_in, gck_t, gck_T, ↓gnm_e, gbd_s, ↓reduceIte, n_leT, n_leF, n_ltT, n_ltF, n_eqT, n_eqF, Nat.add_zero, Nat.zero_add, hN, ha7, e1, e2, hg, z_peq, z0]
theorem c_not {m : Nat} {P : Nat} {sum : Int32} {i : Nat} {bb : Bool} (hP : P < 536870912) (hN : hI F b 10 = nI N) (hi : i < N) (hNn : N ≤ hn F b) (hn2 : hn F b < 1000) (ha7 : ha F b 7 i = -nI 1) : pX2_raise_7 F b f (m + 1) (nI (P * 2 + b1 bb)) sum (nI i) = pX2_raise_7 F b f m (nI (P * 2 + b1 (!bb))) sum (nI (i + 1)) := by
  have e : nI (P * 2 + b1 bb) ^^^ nI 1 = nI (P * 2 + b1 (!bb)) := by
    rw [z_xor (by omega) (b1_lt bb)]
    cases bb <;> rfl
  simp (disch := omega) only [pX2_raise_7, n_lit, nI_add, nI_1, n_cl, gck_in, gck_t, gck_T, ↓gnm_e, gbd_s, ↓reduceIte, n_leT, n_leF, n_ltT, n_ltF, n_eqT, n_eqF, Nat.add_zero, Nat.zero_add, hN, ha7, z_neqT, z_neqF, e]
theorem c_and {m : Nat} {P : Nat} {sum : Int32} {i : Nat} {a bb : Bool} (hP : P < 268435456) (hN : hI F b 10 = nI N) (hi : i < N) (hNn : N ≤ hn F b) (hn2 : hn F b < 1000) (ha7 : ha F b 7 i = -nI 2) : pX2_raise_7 F b f (m + 1) (nI ((P * 2 + b1 a) * 2 + b1 bb)) sum (nI i) = pX2_raise_7 F b f m (nI (P * 2 + b1 (a && bb))) sum (nI (i + 1)) := by
  have q1 := b1_lt a
  have q2 := b1_lt bb
  have e1 : nI ((P * 2 + b1 a) * 2 + b1 bb) &&& nI 1 = nI (b1 bb) := by
    rw [z_and1 (by omega)]; exact congrArg nI (by omega)
  have e2 : (nI ((P * 2 + b1 a) * 2 + b1 bb) >>> (nI 1 &&& nI 31)) &&& nI 1 = nI (b1 a) := by
    rw [z_shr1 (by omega), z_and1 (by omega)]; exact congrArg nI (by omega)
  have e3 : (nI ((P * 2 + b1 a) * 2 + b1 bb) >>> (nI 2 &&& nI 31)) <<< (nI 1 &&& nI 31) = nI (P * 2) := by
    rw [z_shr2 (by omega), show ((P * 2 + b1 a) * 2 + b1 bb) / 4 = P from by omega, z_shl (by omega)]
  simp (disch := omega) only [pX2_raise_7, n_lit, nI_add, nI_1, n_cl, gck_in, gck_t, gck_T, ↓gnm_e, gbd_s, ↓reduceIte, n_leT, n_leF, n_ltT, n_ltF, n_eqT, n_eqF, Nat.add_zero, Nat.zero_add, hN, ha7, z_neqT, z_neqF, e1, e2, e3, z_aa, z_bit]
theorem c_or {m : Nat} {P : Nat} {sum : Int32} {i : Nat} {a bb : Bool} (hP : P < 268435456) (hN : hI F b 10 = nI N) (hi : i < N) (hNn : N ≤ hn F b) (hn2 : hn F b < 1000) (ha7 : ha F b 7 i = -nI 3) : pX2_raise_7 F b f (m + 1) (nI ((P * 2 + b1 a) * 2 + b1 bb)) sum (nI i) = pX2_raise_7 F b f m (nI (P * 2 + b1 (a || bb))) sum (nI (i + 1)) := by
  have q1 := b1_lt a
  have q2 := b1_lt bb
  have e1 : nI ((P * 2 + b1 a) * 2 + b1 bb) &&& nI 1 = nI (b1 bb) := by
    rw [z_and1 (by omega)]; exact congrArg nI (by omega)
  have e2 : (nI ((P * 2 + b1 a) * 2 + b1 bb) >>> (nI 1 &&& nI 31)) &&& nI 1 = nI (b1 a) := by
    rw [z_shr1 (by omega), z_and1 (by omega)]; exact congrArg nI (by omega)
  have e3 : (nI ((P * 2 + b1 a) * 2 + b1 bb) >>> (nI 2 &&& nI 31)) <<< (nI 1 &&& nI 31) = nI (P * 2) := by
    rw [z_shr2 (by omega), show ((P * 2 + b1 a) * 2 + b1 bb) / 4 = P from by omega, z_shl (by omega)]
  have e4 : nI (P * 2) ||| nI (b1 bb) ||| nI (b1 a) = nI (P * 2 + b1 (a || bb)) := by
    rw [Int32.or_assoc, z_oo, z_bit _ _ (by omega)]
  simp (disch := omega) only [pX2_raise_7, n_lit, nI_add, nI_1, n_cl, gck_in, gck_t, gck_T, ↓gnm_e, gbd_s, ↓reduceIte, n_leT, n_leF, n_ltT, n_ltF, n_eqT, n_eqF, Nat.add_zero, Nat.zero_add, hN, ha7, z_neqT, z_neqF, e1, e2, e3, e4]
theorem r_test {m : Nat} {by6 t : Nat → Int32} {sum : Int32} {i d w h x g V : Nat} (hfr : fr + N ≤ 952) (hi : i < N) (hst : s (fr + i) = nI V) (hV : V = w + 8 * h + 32 * x) (hw : w < 6) (hh : h < 3) (hx : x < 100) (hg : by6 w = nI g) (hg2 : g < 1000) (hd : d < 30) : pX12_moreOf_108 s (m + 1) by6 t sum (nI N) (nI fr) (nI d) (nI (fr + i)) = pX12_moreOf_108 s m by6 (upd t d (ib (tt h x g))) sum (nI N) (nI fr) (nI (d + 1)) (nI (fr + (i + 1))) := by
  have e1 : V - V / 8 * 8 = w := by omega
  have e2 : V / 8 - V / 8 / 4 * 4 = h := by omega
  have e3 : V / 32 = x := by omega
  have e4 : V < 10000 := by omega
  clear hV
  rcases (show h = 0 ∨ h = 1 ∨ h = 2 by omega) with e | e | e
  · subst e
    by_cases q : g < x
    · rw [show tt 0 x g = true from by simp [tt, q], show ib true = nI 1 from rfl]
      simp (disch := omega) only [pX12_moreOf_108, n_lit, nI_add, nI_1, n_cl, gck_in, gck_t, gck_T, ↓gnm_e, gbd_s, ↓reduceIte, n_leT, n_leF, n_ltT, n_ltF, n_eqT, n_eqF, Nat.add_zero, Nat.zero_add, hst, pk_div, pk_mul, n_sub, e1, e2, e3, hg, vb_1, vb_0, Nat.add_assoc]
    · rw [show tt 0 x g = false from by simp [tt, q], show ib false = nI 0 from rfl]
      simp (disch := omega) only [pX12_moreOf_108, n_lit, nI_add, nI_1, n_cl, gck_in, gck_t, gck_T, ↓gnm_e, gbd_s, ↓reduceIte, n_leT, n_leF, n_ltT, n_ltF, n_eqT, n_eqF, Nat.add_zero, Nat.zero_add, hst, pk_div, pk_mul, n_sub, e1, e2, e3, hg, vb_1, vb_0, Nat.add_assoc]
  · subst e
    by_cases q : g = x
    · rw [show tt 1 x g = true from by simp [tt, q], show ib true = nI 1 from rfl]
      simp (disch := omega) only [pX12_moreOf_108, n_lit, nI_add, nI_1, n_cl, gck_in, gck_t, gck_T, ↓gnm_e, gbd_s, ↓reduceIte, n_leT, n_leF, n_ltT, n_ltF, n_eqT, n_eqF, Nat.add_zero, Nat.zero_add, hst, pk_div, pk_mul, n_sub, e1, e2, e3, hg, vb_1, vb_0, Nat.add_assoc]
    · rw [show tt 1 x g = false from by simp [tt, q], show ib false = nI 0 from rfl]
      simp (disch := omega) only [pX12_moreOf_108, n_lit, nI_add, nI_1, n_cl, gck_in, gck_t, gck_T, ↓gnm_e, gbd_s, ↓reduceIte, n_leT, n_leF, n_ltT, n_ltF, n_eqT, n_eqF, Nat.add_zero, Nat.zero_add, hst, pk_div, pk_mul, n_sub, e1, e2, e3, hg, vb_1, vb_0, Nat.add_assoc]
  · subst e
    by_cases q : x < g
    · rw [show tt 2 x g = true from by simp [tt, q], show ib true = nI 1 from rfl]
      simp (disch := omega) only [pX12_moreOf_108, n_lit, nI_add, nI_1, n_cl, gck_in, gck_t, gck_T, ↓gnm_e, gbd_s, ↓reduceIte, n_leT, n_leF, n_ltT, n_ltF, n_eqT, n_eqF, Nat.add_zero, Nat.zero_add, hst, pk_div, pk_mul, n_sub, e1, e2, e3, hg, vb_1, vb_0, Nat.add_assoc]
    · rw [show tt 2 x g = false from by simp [tt, q], show ib false = nI 0 from rfl]
      simp (disch := omega) only [pX12_moreOf_108, n_lit, nI_add, nI_1, n_cl, gck_in, gck_t, gck_T, ↓gnm_e, gbd_s, ↓reduceIte, n_leT, n_leF, n_ltT, n_ltF, n_eqT, n_eqF, Nat.add_zero, Nat.zero_add, hst, pk_div, pk_mul, n_sub, e1, e2, e3, hg, vb_1, vb_0, Nat.add_assoc]
end RAISE
