/-! PURE SIDE: ints told as naturals, counting, bits -/
theorem n_lit (n : Nat) : (OfNat.ofNat n : Int32) = nI (OfNat.ofNat n) := Eq.trans rfl rfl
theorem n_cl {n : Nat} (h : n < 2147483648) : (nI n).toNatClampNeg = n := nI_clamp (by omega)
theorem n_le {a b : Nat} (ha : a < 2147483648) (hb : b < 2147483648) : (nI a ≤ nI b) = (a ≤ b) := propext (nI_leI (by omega) (by omega))
theorem n_lt {a b : Nat} (ha : a < 2147483648) (hb : b < 2147483648) : (nI a < nI b) = (a < b) := propext (nI_ltI (by omega) (by omega))
theorem n_eq {a b : Nat} (ha : a < 2147483648) (hb : b < 2147483648) : (nI a = nI b) = (a = b) := propext (nI_eq (by omega) (by omega))
theorem n_leT {a b : Nat} (h : a ≤ b) (hb : b < 2147483648) : (nI a ≤ nI b) = True := by rw [n_le (by omega) hb]; exact eq_true h
theorem n_leF {a b : Nat} (h : b < a) (ha : a < 2147483648) : (nI a ≤ nI b) = False := by rw [n_le ha (by omega)]; exact eq_false (by omega)
theorem n_ltT {a b : Nat} (h : a < b) (hb : b < 2147483648) : (nI a < nI b) = True := by rw [n_lt (by omega) hb]; exact eq_true h
theorem n_ltF {a b : Nat} (h : b ≤ a) (ha : a < 2147483648) : (nI a < nI b) = False := by rw [n_lt ha (by omega)]; exact eq_false (by omega)
theorem n_eqT {a b : Nat} (h : a = b) : (nI a = nI b) = True := eq_true (congrArg nI h)
theorem n_eqF {a b : Nat} (h : a < b ∨ b < a) (ha : a < 2147483648) (hb : b < 2147483648) : (nI a = nI b) = False := by rw [n_eq ha hb]; exact eq_false (by omega)
theorem n_nle {a b : Int32} : ¬ a ≤ b ↔ b < a := by rw [Int32.le_iff_toInt_le, Int32.lt_iff_toInt_lt]; omega
theorem n_nlt {a b : Int32} : ¬ a < b ↔ b ≤ a := by rw [Int32.le_iff_toInt_le, Int32.lt_iff_toInt_lt]; omega
theorem n_ltI {a b : Int32} : a < b ↔ a.toInt < b.toInt := Int32.lt_iff_toInt_lt
theorem n_eqI {a b : Int32} : a = b ↔ a.toInt = b.toInt := Int32.toInt_inj.symm
theorem n_leI {a b : Int32} : a ≤ b ↔ a.toInt ≤ b.toInt := Int32.le_iff_toInt_le
theorem n_ti {n : Nat} (h : n < 2147483648) : (nI n).toInt = (n : Int) := nI_toInt (by omega)
theorem n_neg {n : Nat} (h : n < 2147483648) : (-nI n).toInt = -(n : Int) := by
  rw [Int32.toInt_neg, n_ti h]
  exact Int.bmod_eq_of_le (by omega) (by omega)
theorem n_cl0 {x : Int32} (h : x < 0) : x.toNatClampNeg = 0 := by
  have z : x.toInt < 0 := by have := n_ltI.mp h; simpa using this
  have e : x.toNatClampNeg = x.toInt.toNat := rfl
  omega
theorem n_nneg {x : Int32} (h : ¬ x < 0) : x = nI x.toNatClampNeg ∧ x.toNatClampNeg < 2147483648 := by
  obtain ⟨j, h1, h2⟩ := nI_of h
  rw [h2, n_cl (by omega)]
  exact ⟨rfl, by omega⟩
theorem n_add0 (x : Int32) : x + nI 0 = x := Int32.add_zero x
theorem n_zadd (x : Int32) : nI 0 + x = x := Int32.zero_add x
theorem n_sub0 (x : Int32) : x - nI 0 = x := Int32.sub_zero x
theorem n_sub {a b : Nat} (h : b ≤ a) : nI a - nI b = nI (a - b) := pk_sub h
theorem n_a1 (a : Nat) : nI a + nI 1 = nI (a + 1) := nI_add a 1
theorem ginb_t {n m : Nat} (h : n < m) (hm : m < 2147483648) : ginb (nI n) m = true := by
  simp only [ginb, Bool.and_eq_true, Bool.not_eq_true', decide_eq_true_eq, decide_eq_false_iff_not]
  refine ⟨?_, ?_⟩
  · rw [show (0 : Int32) = nI 0 from rfl, nI_ltI (by omega) (by omega)]; omega
  · rw [nI_clamp (by omega)]; exact h
theorem gck_t {α : Type} {c : Prop} [Decidable c] {x : Option α} (h : c) : gck c x = x := by unfold gck; rw [if_pos h]
theorem gck_T {α : Type} {x : Option α} [Decidable True] : gck True x = x := gck_t trivial
theorem gck_in {α : Type} {x : Option α} {n m : Nat} (h : n < m) (hm : m < 2147483648) : gck (ginb (nI n) m = true) x = x := gck_t (ginb_t h hm)
theorem gck_ne {α : Type} {x : Option α} {n : Nat} (h : 0 < n) (hm : n < 2147483648) : gck (¬ nI n = nI 0) x = x := gck_t (by rw [n_eq hm (by omega)]; omega)
theorem gnm_e {α β : Type} (x : α) (f : α → β) : gnm x f = f x := Eq.trans rfl rfl
theorem gbd_s {α β : Type} (z : α) (f : α → Option β) : gbd (some z) f = f z := Eq.trans rfl rfl
theorem gmt_s {α : Type} (b : Nat) (x : Option α) (f : Nat → Option α) : gmt (some b) x f = f b := Eq.trans rfl rfl
theorem gmt_n {α : Type} (x : Option α) (f : Nat → Option α) : gmt none x f = x := Eq.trans rfl rfl
theorem z_of {a b c : Nat} (h : a + b = c) : b = c - a := by omega
/-! counting: kn p n = how many w < n have p -/
def kn (p : Nat → Bool) : Nat → Nat
  | 0 => 0
  | n + 1 => kn p n + (if p n = true then 1 else 0)
section CN
variable {p q : Nat → Bool} {n m w x i : Nat}
theorem kn_t (h : p n = true) : kn p (n + 1) = kn p n + 1 := by rw [kn, if_pos h]
theorem kn_f (h : ¬ p n = true) : kn p (n + 1) = kn p n := by rw [kn, if_neg h]; rfl
theorem kn_le (p : Nat → Bool) (n : Nat) : kn p n ≤ n := by
  induction n with
  | zero => exact Nat.le_refl _
  | succ n ih => rw [kn]; split <;> omega
theorem kn_mono (p : Nat → Bool) (h : m ≤ n) : kn p m ≤ kn p n := by
  induction n with
  | zero => have : m = 0 := by omega
            rw [this]; exact Nat.le_refl _
  | succ n ih =>
    by_cases e : m = n + 1
    · rw [e]; exact Nat.le_refl _
    · have := ih (by omega)
      rw [kn]; omega
theorem kn_lt (h : w < n) (hp : p w = true) : kn p w < kn p n := by
  have := kn_mono p (show w + 1 ≤ n by omega)
  rw [kn_t hp] at this; omega
theorem kn_inj (hw : p w = true) (hx : p x = true) (e : kn p w = kn p x) : w = x := by
  rcases Nat.lt_trichotomy w x with h | h | h
  · have := kn_lt h hw; omega
  · exact h
  · have := kn_lt h hx; omega
theorem kn_lei (hw : p w = true) (hx : p x = true) : kn p x ≤ kn p w ↔ x ≤ w := by
  constructor
  · intro h
    by_cases e : x ≤ w
    · exact e
    · have := kn_lt (show w < x by omega) hw; omega
  · exact fun h => kn_mono p h
theorem kn_congr (h : ∀ w, w < n → p w = q w) : kn p n = kn q n := by
  induction n with
  | zero => rfl
  | succ n ih => rw [kn, kn, ih (fun w hw => h w (by omega)), h n (by omega)]
theorem kn_ex : ∀ {n i : Nat}, i < kn p n → ∃ w, w < n ∧ p w = true ∧ kn p w = i := by
  intro n
  induction n with
  | zero => intro i h; exact absurd h (Nat.not_lt_zero _)
  | succ n ih =>
    intro i h
    by_cases e : p n = true
    · rw [kn_t e] at h
      by_cases e2 : i = kn p n
      · exact ⟨n, by omega, e, e2.symm⟩
      · obtain ⟨w, h1, h2, h3⟩ := ih (show i < kn p n by omega)
        exact ⟨w, by omega, h2, h3⟩
    · rw [kn_f e] at h
      obtain ⟨w, h1, h2, h3⟩ := ih h
      exact ⟨w, by omega, h2, h3⟩
theorem kn_zero (h : ∀ w, w < n → p w = false) : kn p n = 0 := by
  induction n with
  | zero => rfl
  | succ n ih => rw [kn_f (by rw [h n (by omega)]; decide), ih (fun w hw => h w (by omega))]
theorem kn_one (h : x < n) : kn (fun w => decide (w = x)) n = 1 := by
  induction n with
  | zero => omega
  | succ n ih =>
    by_cases e : x = n
    · rw [kn_t (by simp [e]), kn_zero (fun w hw => by simp; omega)]
    · rw [kn_f (by simp; omega), ih (by omega)]
theorem kn_two {a b : Nat → Bool} (h : ∀ w, w < n → (if p w = true then 1 else 0) = (if a w = true then 1 else 0) + (if b w = true then 1 else 0)) : kn p n = kn a n + kn b n := by
  induction n with
  | zero => rfl
  | succ n ih =>
    have := h n (by omega)
    rw [kn, kn, kn, ih (fun w hw => h w (by omega))]; omega
theorem kn_out (h : ∀ w, p w = true → w < n) (hm : n ≤ m) : kn p m = kn p n := by
  induction m with
  | zero => have : n = 0 := by omega
            rw [this]
  | succ m ih =>
    by_cases e : n = m + 1
    · rw [e]
    · rw [kn_f (fun z => by have := h m z; omega), ih (by omega)]
theorem kn_sub (h : ∀ w, w < n → p w = true → q w = true) : kn p n ≤ kn q n := by
  induction n with
  | zero => exact Nat.le_refl _
  | succ n ih =>
    have h1 := ih (fun w hw => h w (by omega))
    have h2 := h n (by omega)
    rw [kn, kn]
    by_cases e : p n = true
    · rw [if_pos e, if_pos (h2 e)]; omega
    · rw [if_neg e]; omega
end CN
theorem pg : ∀ (n : Nat) (f : Nat → Nat), (∀ i, i < n → f i < n) → (∀ i j, i < n → j < n → f i = f j → i = j) → ∀ k, k < n → ∃ i, i < n ∧ f i = k := by
  intro n
  induction n with
  | zero => intro f _ _ k hk; omega
  | succ n ih =>
    intro f hb hi k hk
    have hg := ih (fun i => if f i = n then f n else f i) ?_ ?_
    · by_cases e1 : k = f n
      · exact ⟨n, by omega, e1.symm⟩
      · by_cases e2 : k = n
        · have hfn : f n < n := by have := hb n (by omega); omega
          obtain ⟨i, h1, h2⟩ := hg (f n) hfn
          by_cases e3 : f i = n
          · exact ⟨i, by omega, by omega⟩
          · have h3 : f i = f n := by simpa [e3] using h2
            have := hi i n (by omega) (by omega) h3
            omega
        · obtain ⟨i, h1, h2⟩ := hg k (by omega)
          by_cases e3 : f i = n
          · have h3 : f n = k := by simpa [e3] using h2
            omega
          · have h3 : f i = k := by simpa [e3] using h2
            exact ⟨i, by omega, h3⟩
    · intro i h
      have h1 := hb i (by omega)
      have h2 := hb n (by omega)
      by_cases e : f i = n
      · have h3 : f n ≠ n := fun z => by have := hi i n (by omega) (by omega) (by omega); omega
        simp only [if_pos e]; omega
      · simp only [if_neg e]; omega
    · intro i j h1 h2 e
      by_cases e1 : f i = n
      · by_cases e2 : f j = n
        · exact hi i j (by omega) (by omega) (by omega)
        · simp only [if_pos e1, if_neg e2] at e
          have := hi n j (by omega) (by omega) e
          omega
      · by_cases e2 : f j = n
        · simp only [if_neg e1, if_pos e2] at e
          have := hi i n (by omega) (by omega) e
          omega
        · simp only [if_neg e1, if_neg e2] at e
          exact hi i j (by omega) (by omega) e
/-! bits -/
def tb (p : Nat → Bool) : Nat → Nat
  | 0 => 0
  | n + 1 => tb p n + (if p n = true then 2 ^ n else 0)
theorem tb_lt (p : Nat → Bool) (n : Nat) : tb p n < 2 ^ n := by
  induction n with
  | zero => show 0 < 2 ^ 0; decide
  | succ n ih => rw [tb, Nat.pow_succ]; split <;> omega
theorem tb_or : ∀ n, n < 10 → ∀ b, b < 2 ^ n → nI b ||| (nI 1 <<< (nI n &&& nI 31)) = nI (b + 2 ^ n) := by decide +kernel
theorem tb_bit : ∀ w, w < 10 → ∀ b, b < 1024 → ((nI b &&& (nI 1 <<< (nI w &&& nI 31))) = nI 0 ↔ b / 2 ^ w % 2 = 0) := by decide +kernel
theorem tb_b2 : ∀ n, n < 10 → ∀ b, b < 2 ^ n → ∀ w, w < 10 → (b + 2 ^ n) / 2 ^ w % 2 = if w = n then 1 else b / 2 ^ w % 2 := by decide +kernel
theorem tb_at (p : Nat → Bool) : ∀ n, n ≤ 10 → ∀ w, w < 10 → (tb p n / 2 ^ w % 2 = 0 ↔ ¬ (w < n ∧ p w = true)) := by
  intro n
  induction n with
  | zero => intro _ w _; simp [tb]
  | succ n ih =>
    intro hn w hw
    have h := ih (by omega) w hw
    rw [tb]
    by_cases e : p n = true
    · rw [if_pos e, tb_b2 n (by omega) _ (tb_lt p n) w hw]
      by_cases e2 : w = n
      · subst e2; simp [e]
      · rw [if_neg e2, h]
        constructor
        · intro z y; exact z ⟨by omega, y.2⟩
        · intro z y; exact z ⟨by omega, y.2⟩
    · rw [if_neg e, Nat.add_zero, h]
      constructor
      · intro z y
        by_cases e2 : w = n
        · subst e2; exact e y.2
        · exact z ⟨by omega, y.2⟩
      · intro z y; exact z ⟨by omega, y.2⟩
def pc (b : Nat) : Nat := b % 2 + b / 2 % 2 + b / 4 % 2 + b / 8 % 2 + b / 16 % 2 + b / 32 % 2 + b / 64 % 2 + b / 128 % 2 + b / 256 % 2 + b / 512 % 2
theorem pc_2 : ∀ n, n < 10 → ∀ b, b < 2 ^ n → pc (b + 2 ^ n) = pc b + 1 := by decide +kernel
theorem pc_tb (p : Nat → Bool) : ∀ n, n ≤ 10 → pc (tb p n) = kn p n := by
  intro n
  induction n with
  | zero => intro _; show pc 0 = 0; decide
  | succ n ih =>
    intro hn
    rw [tb, kn]
    by_cases e : p n = true
    · rw [if_pos e, if_pos e, pc_2 n (by omega) _ (tb_lt p n), ih (by omega)]
    · rw [if_neg e, if_neg e, Nat.add_zero, Nat.add_zero, ih (by omega)]
theorem pc_bc : ∀ b, b < 1024 → pJ6_bitCount_0f7a4 (nI b) = some (nI (pc b)) := by decide +kernel
theorem tb_all : ∀ n, n ≤ 10 → (nI 1 <<< (nI n &&& nI 31)) - nI 1 = nI (tb (fun w => decide (w < n)) n) := by decide +kernel
theorem tb_1024 (p : Nat → Bool) {n : Nat} (h : n ≤ 10) : tb p n < 1024 := Nat.lt_of_lt_of_le (tb_lt p n) (Nat.pow_le_pow_right (by omega) h)
