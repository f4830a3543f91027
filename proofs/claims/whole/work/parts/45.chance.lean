/-! PURE SIDE: fractions in lowest terms, chance, leans -/
theorem l_lit (n : Nat) : (OfNat.ofNat n : Int64) = lN (OfNat.ofNat n) := Eq.trans rfl rfl
theorem l_eq0 {a : Nat} (h : a < 9223372036854775808) : (lg_cmp (lN a) 0 = 0) ↔ a = 0 := by
  rw [lg_cmp_eq, l_lit, pk_lEQ (by omega) (by omega)]
theorem l_ne0 {a : Nat} (h : a < 9223372036854775808) (h0 : 0 < a) : ¬ lN a = 0 := by
  rw [l_lit, pk_lEQ (by omega) (by omega)]; omega
/-- Euclid's steps: how many at most -/
theorem r_div17 : ∀ k n a b : Nat, a < 2 ^ k → b < 2 ^ 62 → k ≤ 62 → 2 * k < n → pX12_divisor_17 n (lN b) (lN a) = some (lN (Nat.gcd a b)) := by
  intro k
  induction k with
  | zero =>
    intro n a b ha hb hk hn
    obtain ⟨n, rfl⟩ : ∃ j, n = j + 1 := ⟨n - 1, by omega⟩
    have e : a = 0 := by omega
    subst e
    rw [pX12_divisor_17, if_pos ((l_eq0 (by omega)).mpr rfl), Nat.gcd_zero_left]
  | succ k ih =>
    intro n a b ha hb hk hn
    have h62 : 2 ^ (k + 1) ≤ 2 ^ 62 := Nat.pow_le_pow_right (by omega) hk
    have h62' : (2 : Nat) ^ 62 = 4611686018427387904 := by decide
    obtain ⟨n, rfl⟩ : ∃ j, n = j + 1 := ⟨n - 1, by omega⟩
    by_cases ea : a = 0
    · subst ea
      rw [pX12_divisor_17, if_pos ((l_eq0 (by omega)).mpr rfl), Nat.gcd_zero_left]
    · have hr := Nat.mod_lt b (show 0 < a by omega)
      have hrec : Nat.gcd a b = Nat.gcd (b % a) a := Nat.gcd_rec a b
      rw [pX12_divisor_17, if_neg (fun z => ea ((l_eq0 (by omega)).mp z)), gck_t (l_ne0 (by omega) (by omega)), gnm_e, pk_lRem (by omega) (by omega) (by omega), hrec]
      generalize b % a = r at *
      obtain ⟨n, rfl⟩ : ∃ j, n = j + 1 := ⟨n - 1, by omega⟩
      by_cases er : r = 0
      · subst er
        rw [pX12_divisor_17, if_pos ((l_eq0 (by omega)).mpr rfl), Nat.gcd_zero_left]
      · have hr2 := Nat.mod_lt a (show 0 < r by omega)
        have hdm := Nat.div_add_mod a r
        have hq : 0 < a / r := Nat.div_pos (by omega) (by omega)
        have hqr : r * 1 ≤ r * (a / r) := Nat.mul_le_mul_left r hq
        rw [pX12_divisor_17, if_neg (fun z => er ((l_eq0 (by omega)).mp z)), gck_t (l_ne0 (by omega) (by omega)), gnm_e, pk_lRem (by omega) (by omega) (by omega), Nat.gcd_rec r a]
        exact ih n (a % r) r (by rw [Nat.pow_succ] at ha; omega) (by omega) (by omega) (by omega)
theorem c_low33 {x0 x2 : Int64} {p : Nat} (hp : p ≤ 1) : ∀ k n i a b : Nat, a < 2 ^ k → b < 2 ^ 62 → k ≤ 62 → 2 * k < n → 2 * k + i ≤ 99 → 0 < Nat.gcd a b → pX11_lowest_33 n x0 x2 (nI p) (lN a) (lN b) (nI i) = some ((if p = 0 then x0 else x2) / lN (Nat.gcd a b)) := by
  have out : ∀ b : Nat, b < 2 ^ 62 → 0 < b → (if nI p = 0 then gck (¬ lN b = 0) (some (x0 / lN b)) else gck (¬ lN b = 0) (some (x2 / lN b))) = some ((if p = 0 then x0 else x2) / lN b) := fun b hb hb0 => by
    rcases (show p = 0 ∨ p = 1 by omega) with e | e <;> subst e
    · rw [if_pos (show nI 0 = (0 : Int32) from rfl), gck_t (l_ne0 (by omega) hb0), if_pos rfl]
    · rw [if_neg (by decide), gck_t (l_ne0 (by omega) hb0), if_neg (by decide)]
  intro k
  induction k with
  | zero =>
    intro n i a b ha hb hk hn hi hg
    obtain ⟨n, rfl⟩ : ∃ j, n = j + 1 := ⟨n - 1, by omega⟩
    have e : a = 0 := by omega
    subst e
    rw [Nat.gcd_zero_left] at hg ⊢
    rw [pX11_lowest_33, if_neg (by rw [n_lit, n_leF (by omega) (by omega)]; exact fun z => z), if_pos ((l_eq0 (by omega)).mpr rfl)]
    exact out b hb hg
  | succ k ih =>
    intro n i a b ha hb hk hn hi hg
    have h62 : 2 ^ (k + 1) ≤ 2 ^ 62 := Nat.pow_le_pow_right (by omega) hk
    have h62' : (2 : Nat) ^ 62 = 4611686018427387904 := by decide
    obtain ⟨n, rfl⟩ : ∃ j, n = j + 1 := ⟨n - 1, by omega⟩
    by_cases ea : a = 0
    · subst ea
      rw [Nat.gcd_zero_left] at hg ⊢
      rw [pX11_lowest_33, if_neg (by rw [n_lit, n_leF (by omega) (by omega)]; exact fun z => z), if_pos ((l_eq0 (by omega)).mpr rfl)]
      exact out b hb hg
    · have hr := Nat.mod_lt b (show 0 < a by omega)
      have hrec : Nat.gcd a b = Nat.gcd (b % a) a := Nat.gcd_rec a b
      rw [hrec] at hg
      rw [pX11_lowest_33, if_neg (by rw [n_lit, n_leF (by omega) (by omega)]; exact fun z => z), if_neg (fun z => ea ((l_eq0 (by omega)).mp z)), gck_t (l_ne0 (by omega) (by omega)), gnm_e, pk_lRem (by omega) (by omega) (by omega), hrec, nI_1]
      generalize b % a = r at *
      obtain ⟨n, rfl⟩ : ∃ j, n = j + 1 := ⟨n - 1, by omega⟩
      by_cases er : r = 0
      · subst er
        rw [Nat.gcd_zero_left]
        rw [pX11_lowest_33, if_neg (by rw [n_lit, n_leF (by omega) (by omega)]; exact fun z => z), if_pos ((l_eq0 (by omega)).mpr rfl)]
        exact out a (by omega) (by omega)
      · have hr2 := Nat.mod_lt a (show 0 < r by omega)
        have hdm := Nat.div_add_mod a r
        have hq : 0 < a / r := Nat.div_pos (by omega) (by omega)
        have hqr : r * 1 ≤ r * (a / r) := Nat.mul_le_mul_left r hq
        have hrec2 := Nat.gcd_rec r a
        rw [hrec2] at hg
        rw [pX11_lowest_33, if_neg (by rw [n_lit, n_leF (by omega) (by omega)]; exact fun z => z), if_neg (fun z => er ((l_eq0 (by omega)).mp z)), gck_t (l_ne0 (by omega) (by omega)), gnm_e, pk_lRem (by omega) (by omega) (by omega), hrec2, nI_1]
        exact ih n (i + 1 + 1) (a % r) r (by rw [Nat.pow_succ] at ha; omega) (by omega) (by omega) (by omega) (by omega) hg
theorem l_neg {A : Nat} (h : A < 2 ^ 62) : (-lN A).toInt = -(A : Int) := by
  have h62' : (2 : Nat) ^ 62 = 4611686018427387904 := by decide
  rw [Int64.toInt_neg, pk_lT (by omega)]
  exact Int.bmod_eq_of_le (by omega) (by omega)
/-- a number and its size -/
def SZ (x : Int64) (a : Nat) : Prop := x = lN a ∨ x = -lN a
theorem low_r {x : Int64} {a b p : Nat} (hx : SZ x a) (ha : a < 2 ^ 62) (hb0 : 0 < b) (hb : b < 2 ^ 32) (hp : p ≤ 1) : pX12_lowest x (lN b) (nI p) = some ((if p = 0 then x else lN b) / lN (Nat.gcd a b)) := by
  have h62' : (2 : Nat) ^ 62 = 4611686018427387904 := by decide
  have h32' : (2 : Nat) ^ 32 = 4294967296 := by decide
  have hg : 0 < Nat.gcd a b := Nat.gcd_pos_of_pos_right a hb0
  have hgb : Nat.gcd a b ≤ b := Nat.gcd_le_right a hb0
  have k1 := r_div17 32 1000 b a hb ha (by omega) (by omega)
  rw [Nat.gcd_comm] at k1
  have hd : pX12_divisor x (lN b) = some (lN (Nat.gcd a b)) := by
    unfold pX12_divisor
    rcases hx with e | e <;> subst e
    · rw [if_pos (by rw [lg_cmp_ge, l_lit, pk_lLE (by omega) (by omega)]; omega)]
      exact k1
    · by_cases z : (0 : Int32) ≤ lg_cmp (-lN a) 0
      · rw [lg_cmp_ge, Int64.le_iff_toInt_le, l_neg ha, show ((0 : Int64).toInt) = 0 from by decide] at z
        have e0 : a = 0 := by omega
        subst e0
        rw [show -lN 0 = lN 0 from by decide, if_pos (by decide)]
        exact k1
      · rw [if_neg z, gnm_e, Int64.neg_neg]
        exact k1
  unfold pX12_lowest
  rcases (show p = 0 ∨ p = 1 by omega) with e | e <;> subst e
  · rw [if_pos (show nI 0 = (0 : Int32) from rfl), hd, gbd_s, gck_t (l_ne0 (by omega) hg), if_pos rfl]
  · rw [if_neg (by decide), hd, gbd_s, gck_t (l_ne0 (by omega) hg), if_neg (by decide)]
theorem low_c {x : Int64} {a b p : Nat} (hx : SZ x a) (ha : a < 2 ^ 62) (hb0 : 0 < b) (hb : b < 2 ^ 32) (hp : p ≤ 1) : pX11_lowest x (lN b) (nI p) = some ((if p = 0 then x else lN b) / lN (Nat.gcd a b)) := by
  have h62' : (2 : Nat) ^ 62 = 4611686018427387904 := by decide
  have h32' : (2 : Nat) ^ 32 = 4294967296 := by decide
  have hg : 0 < Nat.gcd a b := Nat.gcd_pos_of_pos_right a hb0
  have habs : (if 0 < x then x else -x) = lN a := by
    rcases hx with e | e <;> subst e
    · by_cases z : (0 : Int64) < lN a
      · rw [if_pos z]
      · rw [l_lit, pk_lLT (by omega) (by omega)] at z
        have e0 : a = 0 := by omega
        subst e0
        decide
    · rw [if_neg (by rw [Int64.lt_iff_toInt_lt, l_neg ha, show ((0 : Int64).toInt) = 0 from by decide]; omega), Int64.neg_neg]
  unfold pX11_lowest
  rw [if_neg (by rw [lg_cmp_le, l_lit, pk_lLE (by omega) (by omega)]; omega), if_neg (by rw [n_lit, n_ltF (by omega) (by omega)]; exact fun z => z), if_pos (by rw [n_lit, n_leT hp (by omega)]; trivial), habs, gnm_e]
  by_cases ea : a = 0
  · subst ea
    exact c_low33 hp 0 1000 0 0 b (by decide) (by omega) (by omega) (by omega) (by omega) hg
  · have hm := Nat.mod_lt b (show 0 < a by omega)
    have hml := Nat.mod_le b a
    have hrec : Nat.gcd a b = Nat.gcd (b % a) a := Nat.gcd_rec a b
    rw [hrec] at hg
    have hfuel : (1000 : Nat) = 999 + 1 := rfl
    rw [hfuel, pX11_lowest_33, if_neg (by decide), if_neg (fun z => ea ((l_eq0 (by omega)).mp z)), gck_t (l_ne0 (by omega) (by omega)), gnm_e, pk_lRem (by omega) (by omega) (by omega), hrec]
    exact c_low33 hp 32 999 1 (b % a) a (by omega) ha (by omega) (by omega) (by omega) hg
/-! ways to choose -/
def cho (n k : Nat) : Int64 := match pX11_choices (nI n) (nI k) with
  | some v => v
  | none => 0
theorem cho_all : ∀ n, n < 31 → ∀ k, k < 31 → (pX11_choices (nI n) (nI k) = some (cho n k) ∧ pX12_chooses (nI n) (nI k) = some (cho n k)) ∧ (cho n k = lN (cho n k).toNatClampNeg ∧ (cho n k).toNatClampNeg < 268435456) := by decide +kernel
theorem cho_pos : ∀ n, n < 31 → ∀ k, k < 31 → k ≤ n → 0 < (cho n k).toNatClampNeg := by decide +kernel
theorem m_chance (x1 x2 x3 x4 x5 : Int32) : ∃ v, pX11_chance x1 x2 x3 x4 x5 = some v ∧ pX12_chance x1 x2 x3 x4 x5 = some v := by
  unfold pX11_chance pX12_chance
  have h1 : (∃ hN : Nat, 1 ≤ hN ∧ hN ≤ 30 ∧ x1 = nI hN) ∨ (x1 < nI 1 ∨ nI 30 < x1) := by
    rcases x_in x1 (n := 30) (by decide) with ⟨j, hj, rfl⟩ | hx
    · by_cases z : 1 ≤ j
      · exact Or.inl ⟨j, z, hj, rfl⟩
      · exact Or.inr (Or.inl (by rw [n_lt (by omega) (by omega)]; omega))
    · exact Or.inr (hx.elim (fun z => Or.inl (n_lt01 z)) Or.inr)
  rcases h1 with ⟨hN, a1, a2, rfl⟩ | hx1
  · have z1 : pX12_in (nI hN) 1 30 = some (nI 1) := in_nT (a := 1) (n := 30) a1 a2 (by decide)
    rw [if_neg (show ¬ nI hN < 1 by rw [n_lit, n_ltF (by omega) (by omega)]; exact fun z => z), if_pos (show nI hN ≤ 30 by rw [n_lit, n_leT a2 (by omega)]; trivial), z1, gbd_s, ib1]
    rcases x_in x2 (n := hN) (by omega) with ⟨g, hg, rfl⟩ | hx2
    · have z2 : pX12_in (nI g) 0 (nI hN) = some (nI 1) := in_nT (a := 0) (by omega) hg (by omega)
      have z3 : pX11_isWithin (nI g) (nI hN) = some (nI 1) := wi_nT hg (by omega)
      rw [z2, gbd_s, ib1, z3, gbd_s, ib1]
      rcases x_in x3 (n := hN) (by omega) with ⟨n, hn, rfl⟩ | hx3
      · have z4 : pX12_in (nI n) 0 (nI hN) = some (nI 1) := in_nT (a := 0) (by omega) hn (by omega)
        have z5 : pX11_isWithin (nI n) (nI hN) = some (nI 1) := wi_nT hn (by omega)
        rw [z4, gbd_s, ib1, z5, gbd_s, ib1]
        rcases x_in x4 (n := n) (by omega) with ⟨m, hm, rfl⟩ | hx4
        · have z6 : pX12_in (nI m) 0 (nI n) = some (nI 1) := in_nT (a := 0) (by omega) hm (by omega)
          have z7 : pX11_isWithin (nI m) (nI n) = some (nI 1) := wi_nT hm (by omega)
          obtain ⟨⟨p1, p2⟩, p3, p4⟩ := cho_all g (by omega) m (by omega)
          obtain ⟨⟨q1, q2⟩, q3, q4⟩ := cho_all (hN - g) (by omega) (n - m) (by omega)
          obtain ⟨⟨r1, r2⟩, r3, r4⟩ := cho_all hN (by omega) n (by omega)
          have r5 := cho_pos hN (by omega) n (by omega) hn
          have hsub1 : nI hN - nI g = nI (hN - g) := n_sub hg
          have hsub2 : nI n - nI m = nI (n - m) := n_sub hm
          have p1' := p1.trans (congrArg some p3)
          have p2' := p2.trans (congrArg some p3)
          have q1' := q1.trans (congrArg some q3)
          have q2' := q2.trans (congrArg some q3)
          have r1' := r1.trans (congrArg some r3)
          have r2' := r2.trans (congrArg some r3)
          rw [z6, gbd_s, ib1, z7, gbd_s, ib1, hsub1, hsub2, p1', gbd_s, q1', gbd_s, r1', gbd_s, lN_mul]
          have hpl : (cho g m).toNatClampNeg * (cho (hN - g) (n - m)).toNatClampNeg ≤ 268435456 * 268435456 := Nat.mul_le_mul (by omega) (by omega)
          have hpl2 : (cho g m).toNatClampNeg * (cho (hN - g) (n - m)).toNatClampNeg < 2 ^ 62 := Nat.lt_of_le_of_lt hpl (by decide)
          rcases x_in x5 (n := 1) (by decide) with ⟨p, hp, rfl⟩ | hx5
          · have z8 : pX12_in (nI p) 0 1 = some (nI 1) := in_nT (a := 0) (n := 1) (by omega) hp (by decide)
            rw [z8, gbd_s, ib1, p2', gbd_s, q2', gbd_s, r2', gbd_s, lN_mul]
            rw [low_c (Or.inl rfl) hpl2 r5 (by omega) hp, low_r (Or.inl rfl) hpl2 r5 (by omega) hp]
            exact ⟨_, rfl, rfl⟩
          · have z8 : pX12_in x5 0 1 = some (nI 0) := in_f hx5
            have hl : pX11_lowest (lN ((cho g m).toNatClampNeg * (cho (hN - g) (n - m)).toNatClampNeg)) (lN (cho hN n).toNatClampNeg) x5 = some (-9223372036854775808) := by
              unfold pX11_lowest
              rw [if_neg (by rw [lg_cmp_le, l_lit, pk_lLE (by omega) (by omega)]; omega)]
              by_cases w0 : x5 < 0
              · rw [if_pos w0]
              · rw [if_neg w0, if_neg (show ¬ x5 ≤ 1 from n_nle.mpr (hx5.resolve_left w0))]
            rw [z8, gbd_s, ib0, hl]
            exact ⟨_, rfl, rfl⟩
        · have z6 : pX12_in x4 0 (nI n) = some (nI 0) := in_f hx4
          have z7 : pX11_isWithin x4 (nI n) = some (nI 0) := wi_f hx4
          rw [z6, gbd_s, ib0, z7, gbd_s, ib0]; exact ⟨_, rfl, rfl⟩
      · have z4 : pX12_in x3 0 (nI hN) = some (nI 0) := in_f hx3
        have z5 : pX11_isWithin x3 (nI hN) = some (nI 0) := wi_f hx3
        rw [z4, gbd_s, ib0, z5, gbd_s, ib0]; exact ⟨_, rfl, rfl⟩
    · have z2 : pX12_in x2 0 (nI hN) = some (nI 0) := in_f hx2
      have z3 : pX11_isWithin x2 (nI hN) = some (nI 0) := wi_f hx2
      rw [z2, gbd_s, ib0, z3, gbd_s, ib0]; exact ⟨_, rfl, rfl⟩
  · have z1 : pX12_in x1 1 30 = some (nI 0) := in_f hx1
    rw [z1, gbd_s, ib0]
    by_cases w0 : x1 < 1
    · rw [if_pos w0]; exact ⟨_, rfl, rfl⟩
    · rw [if_neg w0, if_neg (show ¬ x1 ≤ 30 from n_nle.mpr (hx1.resolve_left w0))]; exact ⟨_, rfl, rfl⟩
