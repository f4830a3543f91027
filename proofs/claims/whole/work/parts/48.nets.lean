/-! PURE SIDE: nets on both sides -/
def jb (s : Nat → Int32) (R : Nat) (c d : Nat) : Nat → Nat → Bool
  | 0, _ => false
  | k + 1, x => ((f1 s (nI c) (nI x) R 0).isSome && (f1 s (nI d) (nI x) R 0).isSome) || jb s R c d k (x + 1)
theorem jb_sym {s : Nat → Int32} {R c d : Nat} : ∀ k x, jb s R c d k x = jb s R d c k x := by
  intro k
  induction k with
  | zero => intro x; rfl
  | succ k ih => intro x; rw [jb, jb, ih, Bool.and_comm]
theorem jb_iff {s : Nat → Int32} {R c d : Nat} : ∀ k x, jb s R c d k x = true ↔ ∃ w, x ≤ w ∧ w < x + k ∧ (f1 s (nI c) (nI w) R 0).isSome = true ∧ (f1 s (nI d) (nI w) R 0).isSome = true := by
  intro k
  induction k with
  | zero => intro x; simp [jb]; intro w h1 h2; omega
  | succ k ih =>
    intro x
    rw [jb, Bool.or_eq_true, Bool.and_eq_true, ih]
    constructor
    · rintro (⟨h1, h2⟩ | ⟨w, h1, h2, h3⟩)
      · exact ⟨x, Nat.le_refl _, by omega, h1, h2⟩
      · exact ⟨w, by omega, by omega, h3⟩
    · rintro ⟨w, h1, h2, h3⟩
      by_cases e : w = x
      · subst e; exact Or.inl h3
      · exact Or.inr ⟨w, by omega, by omega, h3⟩
section NETS
variable {F : gF} {o : Nat → Int32} {A : Nat → Nat → Int32} {Cf : Nat → Option Nat} {h : Nat} {s : Nat → Int32} {W C y Hn R T : Nat}
def adj (s : Nat → Int32) (R c d : Nat) : Prop := ∃ i j, i < R ∧ j < R ∧ s (92 + i) = nI c ∧ s (92 + j) = nI d ∧ s (72 + i) = s (72 + j)
theorem jb_adj (hB : ∀ r, r < R → RV s W C r) (c d : Nat) : jb s R c d W 0 = true ↔ adj s R c d := by
  rw [jb_iff]
  constructor
  · rintro ⟨w, -, hw, h1, h2⟩
    cases e1 : f1 s (nI c) (nI w) R 0 with
    | none => rw [e1] at h1; cases h1
    | some i =>
      cases e2 : f1 s (nI d) (nI w) R 0 with
      | none => rw [e2] at h2; cases h2
      | some j =>
        have hi := f1_some _ _ _ e1
        have hj := f1_some _ _ _ e2
        exact ⟨i, j, by omega, by omega, hi.2.2.1, hj.2.2.1, hi.2.2.2.trans hj.2.2.2.symm⟩
  · rintro ⟨i, j, hi, hj, h1, h2, h3⟩
    obtain ⟨w, c', g, z1, z2, z3, z4, q1, q2, q3⟩ := hB i hi
    refine ⟨w, Nat.zero_le _, by omega, ?_, ?_⟩
    · cases e1 : f1 s (nI c) (nI w) R 0 with
      | none => exact absurd ⟨h1, q1⟩ (f1_none _ _ e1 i (Nat.zero_le _) (by omega))
      | some _ => rfl
    · cases e1 : f1 s (nI d) (nI w) R 0 with
      | none => exact absurd ⟨h2, h3.symm.trans q1⟩ (f1_none _ _ e1 j (Nat.zero_le _) (by omega))
      | some _ => rfl
theorem r_hb5 (hW : s 51 = nI W) (h10 : W ≤ 10) (s54 : s 54 = nI R) (h20 : R ≤ 20) {c d : Nat} : ∀ k n x : Nat, ∀ b : Bool, x + k = W → k < n → pX12_haveBoth_5 s n (nI c) (nI d) (ib b) (nI x) = some (ib (b || jb s R c d k x)) := by
  intro k
  induction k with
  | zero =>
    intro n x b e hn
    obtain ⟨n, rfl⟩ : ∃ j, n = j + 1 := ⟨n - 1, by omega⟩
    have e2 : x = W := by omega
    subst e2
    rw [jb, Bool.or_false]
    cases b <;> simp (disch := omega) only [pX12_haveBoth_5, n_lit, nI_add, nI_1, n_cl, gck_in, gck_t, gck_T, ↓gnm_e, gbd_s, ↓reduceIte, n_leT, n_leF, n_ltT, n_ltF, n_eqT, n_eqF, Nat.add_zero, Nat.zero_add, hW] <;> rfl
  | succ k ih =>
    intro n x b e hn
    obtain ⟨n, rfl⟩ : ∃ j, n = j + 1 := ⟨n - 1, by omega⟩
    have q1 := r_fr s54 h20 (nI c) (nI x)
    have q2 := r_fr s54 h20 (nI d) (nI x)
    rw [jb]
    cases b with
    | true =>
      have z := ih n (x + 1) true (by omega) (by omega)
      rw [Bool.true_or] at z ⊢
      rw [← z, show ib true = nI 1 from rfl]
      simp (disch := omega) only [pX12_haveBoth_5, n_lit, nI_add, nI_1, n_cl, gck_in, gck_t, gck_T, ↓gnm_e, gbd_s, ↓reduceIte, n_leT, n_leF, n_ltT, n_ltF, n_eqT, n_eqF, Nat.add_zero, Nat.zero_add, hW]
    | false =>
      rw [Bool.false_or, show ib false = nI 0 from rfl]
      cases e1 : f1 s (nI c) (nI x) R 0 with
      | none =>
        have z := ih n (x + 1) false (by omega) (by omega)
        rw [Bool.false_or, show ib false = nI 0 from rfl] at z
        rw [e1] at q1
        rw [show (none : Option Nat).isSome = false from rfl, Bool.false_and, Bool.false_or, ← z]
        simp (disch := omega) only [pX12_haveBoth_5, n_lit, nI_add, nI_1, n_cl, gck_in, gck_t, gck_T, ↓gnm_e, gbd_s, ↓reduceIte, n_leT, n_leF, n_ltT, n_ltF, n_eqT, n_eqF, Nat.add_zero, Nat.zero_add, hW, q1, fi, z_neqT]
      | some i =>
        have hi := f1_some _ _ _ e1
        rw [e1] at q1
        cases e2 : f1 s (nI d) (nI x) R 0 with
        | none =>
          have z := ih n (x + 1) false (by omega) (by omega)
          rw [Bool.false_or, show ib false = nI 0 from rfl] at z
          rw [e2] at q2
          rw [show (none : Option Nat).isSome = false from rfl, Bool.and_false, Bool.false_or, ← z]
          simp (disch := omega) only [pX12_haveBoth_5, n_lit, nI_add, nI_1, n_cl, gck_in, gck_t, gck_T, ↓gnm_e, gbd_s, ↓reduceIte, n_leT, n_leF, n_ltT, n_ltF, n_eqT, n_eqF, Nat.add_zero, Nat.zero_add, hW, q1, q2, fi_ne, show fi none = -nI 1 from rfl, z_neqT]
        | some j =>
          have hj := f1_some _ _ _ e2
          have z := ih n (x + 1) true (by omega) (by omega)
          rw [Bool.true_or, show ib true = nI 1 from rfl] at z
          rw [e2] at q2
          rw [show ∀ z : Nat, (some z).isSome = true from fun _ => rfl, show ∀ z : Nat, (some z).isSome = true from fun _ => rfl, Bool.and_self, Bool.true_or, show ib true = nI 1 from rfl, ← z]
          simp (disch := omega) only [pX12_haveBoth_5, n_lit, nI_add, nI_1, n_cl, gck_in, gck_t, gck_T, ↓gnm_e, gbd_s, ↓reduceIte, n_leT, n_leF, n_ltT, n_ltF, n_eqT, n_eqF, Nat.add_zero, Nat.zero_add, hW, q1, q2, fi_ne]
theorem r_hb (hW : s 51 = nI W) (h10 : W ≤ 10) (s54 : s 54 = nI R) (h20 : R ≤ 20) (c d : Nat) : pX12_haveBoth s (nI c) (nI d) = some (ib (jb s R c d W 0)) := by
  unfold pX12_haveBoth
  have := r_hb5 hW h10 s54 h20 (c := c) (d := d) W 1000 0 false (by omega) (by omega)
  rw [Bool.false_or] at this
  exact this
def MM (s : Nat → Int32) (R W : Nat) : Nat → Nat → Bool := mm (jb s R 0 1 W 0) (jb s R 0 2 W 0) (jb s R 0 3 W 0) (jb s R 1 2 W 0) (jb s R 1 3 W 0) (jb s R 2 3 W 0)
theorem MM_eq {c d : Nat} (hc : c < 4) (hd : d < 4) (hcd : c ≠ d) : MM s R W c d = jb s R c d W 0 := by
  unfold MM
  rcases (show c = 0 ∨ c = 1 ∨ c = 2 ∨ c = 3 by omega) with e | e | e | e <;> subst e <;> rcases (show d = 0 ∨ d = 1 ∨ d = 2 ∨ d = 3 by omega) with e | e | e | e <;> subst e <;> first | exact absurd rfl hcd | rfl | exact jb_sym _ _
theorem MM_self {c : Nat} (hc : c < 4) : MM s R W c c = false := by
  unfold MM
  rcases (show c = 0 ∨ c = 1 ∨ c = 2 ∨ c = 3 by omega) with e | e | e | e <;> subst e <;> rfl
theorem MM_big (hB : ∀ r, r < R → RV s W C r) (h4 : C ≤ 4) {c d : Nat} (hc : c < 4) (hd : d < 4) (h : C ≤ c ∨ C ≤ d) : MM s R W c d = false := by
  by_cases e : c = d
  · subst e; exact MM_self hc
  · rw [MM_eq hc hd e]
    cases q : jb s R c d W 0 with
    | false => rfl
    | true =>
      obtain ⟨i, j, hi, hj, h1, h2, -⟩ := (jb_adj hB c d).mp q
      obtain ⟨w, c1, g, z1, z2, z3, z4, q1, q2, q3⟩ := hB i hi
      obtain ⟨w', c2, g', y1, y2, y3, y4, r1, r2, r3⟩ := hB j hj
      rw [q2, n_eq (by omega) (by omega)] at h1
      rw [r2, n_eq (by omega) (by omega)] at h2
      omega
theorem nin_id {m : Nat → Nat → Bool} {c : Nat} : ∀ k d b, (∀ j, d ≤ j → j < d + k → m c j = false) → nin m c k d b = b := by
  intro k
  induction k with
  | zero => intro d b _; rfl
  | succ k ih =>
    intro d b hm
    rw [nin, if_neg (fun z => by rw [hm d (Nat.le_refl _) (by omega)] at z; exact absurd z.2 (by decide)), ih (d + 1) b (fun j h1 h2 => hm j (by omega) (by omega))]
theorem nin_lt {m : Nat → Nat → Bool} {c : Nat} : ∀ k d b, d + k ≤ 4 → b < 16 → nin m c k d b < 16 := by
  intro k
  induction k with
  | zero => intro d b _ hb; exact hb
  | succ k ih =>
    intro d b hd hb
    rw [nin]
    refine ih (d + 1) _ (by omega) ?_
    split
    · exact ((bt_16 b hb d (by omega)).2.2.2)
    · exact hb
theorem nou_lt {m : Nat → Nat → Bool} : ∀ k c b, b < 16 → nou m k c b < 16 := by
  intro k
  induction k with
  | zero => intro c b hb; exact hb
  | succ k ih => intro c b hb; rw [nou]; exact ih (c + 1) _ (nin_lt 4 0 b (by omega) hb)
theorem nou_id {m : Nat → Nat → Bool} : ∀ k c b, (∀ i, c ≤ i → i < c + k → ∀ j, j < 4 → m i j = false) → nou m k c b = b := by
  intro k
  induction k with
  | zero => intro c b _; rfl
  | succ k ih =>
    intro c b hm
    rw [nou, nin_id 4 0 b (fun j _ h2 => hm c (Nat.le_refl _) (by omega) j (by omega)), ih (c + 1) b (fun i h1 h2 => hm i (by omega) (by omega))]
theorem r_n29 (hS : SV s W C y Hn R T) {k6 : Int32 → Int32 → Option Int32} {k14 : Int32 → Int32 → Int32 → Option Int32} {x3 : Int32} {c : Nat} (hc : c < C) : ∀ k n d : Nat, ∀ b : Nat, d + k = C → k < n → b < 16 → pX12_netOf_29 k6 k14 s n (nI b) x3 (nI c) (nI d) = k14 (nI (nin (MM s R W) c (4 - d) d b)) x3 (nI (c + 1)) := by
  obtain ⟨⟨hW, h10, hC, h4, -⟩, -, -, -, s54, h20, -, -, -, -, hB, -, -⟩ := hS
  intro k
  induction k with
  | zero =>
    intro n d b e hn hb
    obtain ⟨n, rfl⟩ : ∃ j, n = j + 1 := ⟨n - 1, by omega⟩
    have e2 : d = C := by omega
    subst e2
    rw [nin_id (4 - d) d b (fun j h1 h2 => MM_big hB h4 (by omega) (by omega) (Or.inr h1))]
    simp (disch := omega) only [pX12_netOf_29, n_lit, nI_add, nI_1, n_cl, gck_in, gck_t, gck_T, ↓gnm_e, gbd_s, ↓reduceIte, n_leT, n_leF, n_ltT, n_ltF, n_eqT, n_eqF, Nat.add_zero, Nat.zero_add, hC]
  | succ k ih =>
    intro n d b e hn hb
    obtain ⟨n, rfl⟩ : ∃ j, n = j + 1 := ⟨n - 1, by omega⟩
    obtain ⟨t1, -, t3, t4⟩ := bt_16 b hb c (by omega)
    obtain ⟨-, -, u3, u4⟩ := bt_16 b hb d (by omega)
    have hhb := r_hb hW h10 s54 h20 c d
    rw [show 4 - d = (4 - (d + 1)) + 1 from by omega, nin]
    by_cases q : bt4 b c = true
    · have q' := t1.mpr q
      cases e1 : jb s R c d W 0 with
      | false =>
        have hm : ¬ (bt4 b c = true ∧ MM s R W c d = true) := fun z => by
          by_cases ecd : c = d
          · subst ecd; rw [MM_self (by omega)] at z; exact absurd z.2 (by decide)
          · rw [MM_eq (by omega) (by omega) ecd, e1] at z; exact absurd z.2 (by decide)
        rw [if_neg hm]
        have z := ih n (d + 1) b (by omega) (by omega) hb
        rw [e1, show ib false = nI 0 from rfl] at hhb
        simp (disch := omega) only [pX12_netOf_29, n_lit, nI_add, nI_1, n_cl, gck_in, gck_t, gck_T, ↓gnm_e, gbd_s, ↓reduceIte, n_leT, n_leF, n_ltT, n_ltF, n_eqT, n_eqF, Nat.add_zero, Nat.zero_add, hC, q', hhb, z_or0, z]
      | true =>
        rw [e1, show ib true = nI 1 from rfl] at hhb
        by_cases ecd : c = d
        · subst ecd
          rw [if_neg (fun z => by rw [MM_self (by omega)] at z; exact absurd z.2 (by decide))]
          have z := ih n (c + 1) b (by omega) (by omega) hb
          have hsb : sb b c = b := by unfold sb; rw [if_pos q]
          rw [hsb] at u3
          simp (disch := omega) only [pX12_netOf_29, n_lit, nI_add, nI_1, n_cl, gck_in, gck_t, gck_T, ↓gnm_e, gbd_s, ↓reduceIte, n_leT, n_leF, n_ltT, n_ltF, n_eqT, n_eqF, Nat.add_zero, Nat.zero_add, hC, q', hhb, u3, z]
        · rw [if_pos ⟨q, by rw [MM_eq (by omega) (by omega) ecd, e1]⟩]
          have z := ih n (d + 1) (sb b d) (by omega) (by omega) u4
          simp (disch := omega) only [pX12_netOf_29, n_lit, nI_add, nI_1, n_cl, gck_in, gck_t, gck_T, ↓gnm_e, gbd_s, ↓reduceIte, n_leT, n_leF, n_ltT, n_ltF, n_eqT, n_eqF, Nat.add_zero, Nat.zero_add, hC, q', hhb, u3, z]
    · rw [if_neg (fun z => q z.1)]
      have q' : ¬ ((nI b >>> (nI c &&& nI 31)) &&& nI 1 = nI 1) := fun z => q (t1.mp z)
      have z := ih n (d + 1) b (by omega) (by omega) hb
      simp (disch := omega) only [pX12_netOf_29, n_lit, nI_add, nI_1, n_cl, gck_in, gck_t, gck_T, ↓gnm_e, gbd_s, ↓reduceIte, n_leT, n_leF, n_ltT, n_ltF, n_eqT, n_eqF, Nat.add_zero, Nat.zero_add, hC, q', z_or0, z]
theorem r_n14 (hS : SV s W C y Hn R T) {k6 : Int32 → Int32 → Option Int32} {x3 : Nat} : ∀ k n c : Nat, ∀ b : Nat, c + k = C → k < n → b < 16 → pX12_netOf_14 k6 s n (nI b) (nI x3) (nI c) = k6 (nI (nou (MM s R W) (4 - c) c b)) (nI (x3 + 1)) := by
  obtain ⟨⟨hW, h10, hC, h4, -⟩, -, -, -, s54, h20, -, -, -, -, hB, -, -⟩ := id hS
  intro k
  induction k with
  | zero =>
    intro n c b e hn hb
    obtain ⟨n, rfl⟩ : ∃ j, n = j + 1 := ⟨n - 1, by omega⟩
    have e2 : c = C := by omega
    subst e2
    rw [nou_id (4 - c) c b (fun i h1 h2 j hj => MM_big hB h4 (by omega) hj (Or.inl h1))]
    simp (disch := omega) only [pX12_netOf_14, n_lit, nI_add, nI_1, n_cl, gck_in, gck_t, gck_T, ↓gnm_e, gbd_s, ↓reduceIte, n_leT, n_leF, n_ltT, n_ltF, n_eqT, n_eqF, Nat.add_zero, Nat.zero_add, hC]
  | succ k ih =>
    intro n c b e hn hb
    obtain ⟨n, rfl⟩ : ∃ j, n = j + 1 := ⟨n - 1, by omega⟩
    have k29 := r_n29 hS (k6 := k6) (k14 := pX12_netOf_14 k6 s n) (x3 := nI x3) (c := c) (by omega) C 1000 0 b (by omega) (by omega) hb
    have z := ih n (c + 1) (nin (MM s R W) c 4 0 b) (by omega) (by omega) (nin_lt 4 0 b (by omega) hb)
    rw [show 4 - c = (4 - (c + 1)) + 1 from by omega, nou, ← z]
    simp (disch := omega) only [pX12_netOf_14, n_lit, nI_add, nI_1, n_cl, gck_in, gck_t, gck_T, ↓gnm_e, gbd_s, ↓reduceIte, n_leT, n_leF, n_ltT, n_ltF, n_eqT, n_eqF, Nat.add_zero, Nat.zero_add, hC, k29]
theorem r_n6 (hS : SV s W C y Hn R T) : ∀ k n x : Nat, ∀ b : Nat, x + k = 4 → k < n → b < 16 → pX12_netOf_6 s n (nI b) (nI x) = some (nI (nro (MM s R W) k b)) := by
  have h4 := hS.1.2.2.2.1
  intro k
  induction k with
  | zero =>
    intro n x b e hn hb
    obtain ⟨n, rfl⟩ : ∃ j, n = j + 1 := ⟨n - 1, by omega⟩
    have e2 : x = 4 := by omega
    subst e2
    simp (disch := omega) only [pX12_netOf_6, n_lit, nI_add, nI_1, n_cl, gck_in, gck_t, gck_T, ↓gnm_e, gbd_s, ↓reduceIte, n_leT, n_leF, n_ltT, n_ltF, n_eqT, n_eqF, Nat.add_zero, Nat.zero_add, nro]
  | succ k ih =>
    intro n x b e hn hb
    obtain ⟨n, rfl⟩ : ∃ j, n = j + 1 := ⟨n - 1, by omega⟩
    have k14 := r_n14 hS (k6 := pX12_netOf_6 s n) (x3 := x) C 1000 0 b (by omega) (by omega) hb
    have z := ih n (x + 1) (nou (MM s R W) 4 0 b) (by omega) (by omega) (nou_lt 4 0 b hb)
    rw [nro, ← z]
    simp (disch := omega) only [pX12_netOf_6, n_lit, nI_add, nI_1, n_cl, gck_in, gck_t, gck_T, ↓gnm_e, gbd_s, ↓reduceIte, n_leT, n_leF, n_ltT, n_ltF, n_eqT, n_eqF, Nat.add_zero, Nat.zero_add, k14]
theorem r_net (hS : SV s W C y Hn R T) {c : Nat} (hc : c < 4) : pX12_netOf s (nI c) = some (nI (nro (MM s R W) 4 (2 ^ c))) := by
  unfold pX12_netOf
  obtain ⟨p1, p2⟩ := p2_16 c hc
  have := r_n6 hS 4 1000 0 (2 ^ c) (by omega) (by omega) p2
  simp only [n_lit, gnm_e, p1]
  exact this
theorem nbs_at {m : Nat → Nat → Bool} {b : Nat} : ∀ d, d < 4 → (bt4 (nbs m b) d = true ↔ ∃ c, c < 4 ∧ bt4 b c = true ∧ m c d = true) := by
  intro d hd
  have e : bt4 (nbs m b) d = nbd m b d := by
    obtain ⟨q0, q1, q2, q3⟩ := b4_at (nbd m b 0) (nbd m b 1) (nbd m b 2) (nbd m b 3)
    rcases (show d = 0 ∨ d = 1 ∨ d = 2 ∨ d = 3 by omega) with e | e | e | e <;> subst e
    · exact q0
    · exact q1
    · exact q2
    · exact q3
  rw [e]
  unfold nbd
  simp only [Bool.or_eq_true, Bool.and_eq_true]
  constructor
  · rintro (((h | h) | h) | h)
    · exact ⟨0, by omega, h⟩
    · exact ⟨1, by omega, h⟩
    · exact ⟨2, by omega, h⟩
    · exact ⟨3, by omega, h⟩
  · rintro ⟨c, hc, h⟩
    rcases (show c = 0 ∨ c = 1 ∨ c = 2 ∨ c = 3 by omega) with e | e | e | e <;> subst e
    · exact Or.inl (Or.inl (Or.inl h))
    · exact Or.inl (Or.inl (Or.inr h))
    · exact Or.inl (Or.inr h)
    · exact Or.inr h
theorem c_n37 (hS : SV s W C y Hn R T) (hb : WB s A) {k4 : Int32 → Int32 → Int32 → Option Int32} {x1 : Int32} {i : Nat} (hi : i < R) : ∀ k n j : Nat, ∀ f : Nat, j + k = R → k < n → f < 16 → ∃ f', f' < 16 ∧ pX11_neighbours_37 k4 (nI R) (A 14) (A 15) n x1 (nI f) (nI i) (nI j) = k4 x1 (nI f') (nI (i + 1)) ∧ ∀ d, d < 4 → (bt4 f' d = true ↔ bt4 f d = true ∨ ∃ z, j ≤ z ∧ z < R ∧ s (72 + z) = s (72 + i) ∧ s (92 + z) = nI d) := by
  obtain ⟨⟨hW, h10, hC, h4, -⟩, -, -, -, s54, h20, -, -, -, -, hB, -, -⟩ := hS
  intro k
  induction k with
  | zero =>
    intro n j f e hn hf
    obtain ⟨n, rfl⟩ : ∃ j, n = j + 1 := ⟨n - 1, by omega⟩
    have e2 : j = R := by omega
    subst e2
    refine ⟨f, hf, by rw [pX11_neighbours_37, if_pos (n_leI.mpr (Int.le_refl _)), nI_1], fun d hd => ⟨Or.inl, fun z => ?_⟩⟩
    rcases z with z | ⟨z, h1, h2, -⟩
    · exact z
    · omega
  | succ k ih =>
    intro n j f e hn hf
    obtain ⟨n, rfl⟩ : ∃ j, n = j + 1 := ⟨n - 1, by omega⟩
    have hj : j < R := by omega
    obtain ⟨p14, p15, -⟩ := hb j (by omega)
    obtain ⟨p14', -, -⟩ := hb i (by omega)
    obtain ⟨w, c, g, z1, z2, z3, z4, q1, q2, q3⟩ := hB j hj
    have hnl : ¬ (nI R : Int32) ≤ nI j := by rw [n_leF hj (by omega)]; exact fun z => z
    by_cases ew : s (72 + j) = s (72 + i)
    · obtain ⟨-, -, u3, u4⟩ := bt_16 f hf c (by omega)
      obtain ⟨f', k1, k2, k3⟩ := ih n (j + 1) (sb f c) (by omega) (by omega) u4
      refine ⟨f', k1, ?_, fun d hd => ?_⟩
      · rw [← k2, pX11_neighbours_37, if_neg hnl]
        simp (disch := omega) only [n_cl, gck_in, p14, p14', ew, if_true, p15, q2, gnm_e, nI_1]
        rw [n_lit, n_lit, u3]
      · rw [k3 d hd, sbt_at f hf c (by omega) d hd]
        constructor
        · rintro ((h | h) | ⟨z, h1, h2, h3⟩)
          · exact Or.inl h
          · exact Or.inr ⟨j, Nat.le_refl _, hj, ew, by rw [q2, h]⟩
          · exact Or.inr ⟨z, by omega, h2, h3⟩
        · rintro (h | ⟨z, h1, h2, h3, h4'⟩)
          · exact Or.inl (Or.inl h)
          · by_cases ez : z = j
            · subst ez
              rw [q2, n_eq (by omega) (by omega)] at h4'
              exact Or.inl (Or.inr h4'.symm)
            · exact Or.inr ⟨z, by omega, h2, h3, h4'⟩
    · obtain ⟨f', k1, k2, k3⟩ := ih n (j + 1) f (by omega) (by omega) hf
      refine ⟨f', k1, ?_, fun d hd => ?_⟩
      · rw [← k2, pX11_neighbours_37, if_neg hnl]
        simp (disch := omega) only [n_cl, gck_in, p14, p14', ew, if_false, nI_1]
      · rw [k3 d hd]
        constructor
        · rintro (h | ⟨z, h1, h2, h3⟩)
          · exact Or.inl h
          · exact Or.inr ⟨z, by omega, h2, h3⟩
        · rintro (h | ⟨z, h1, h2, h3, h4'⟩)
          · exact Or.inl h
          · by_cases ez : z = j
            · subst ez; exact absurd h3 ew
            · exact Or.inr ⟨z, by omega, h2, h3, h4'⟩
theorem c_n4 (hS : SV s W C y Hn R T) (hb : WB s A) {b : Nat} (hb16 : b < 16) : ∀ k n i : Nat, ∀ f : Nat, i + k = R → k < n → f < 16 → ∃ f', f' < 16 ∧ pX11_neighbours_4 (nI R) (A 14) (A 15) n (nI b) (nI f) (nI i) = some (nI f') ∧ ∀ d, d < 4 → (bt4 f' d = true ↔ bt4 f d = true ∨ ∃ u c, i ≤ u ∧ u < R ∧ c < 4 ∧ s (92 + u) = nI c ∧ bt4 b c = true ∧ ∃ z, z < R ∧ s (72 + z) = s (72 + u) ∧ s (92 + z) = nI d) := by
  obtain ⟨⟨hW, h10, hC, h4, -⟩, -, -, -, s54, h20, -, -, -, -, hB, -, -⟩ := id hS
  intro k
  induction k with
  | zero =>
    intro n i f e hn hf
    obtain ⟨n, rfl⟩ : ∃ j, n = j + 1 := ⟨n - 1, by omega⟩
    have e2 : i = R := by omega
    subst e2
    refine ⟨f, hf, by rw [pX11_neighbours_4, if_pos (n_leI.mpr (Int.le_refl _))], fun d hd => ⟨Or.inl, fun z => ?_⟩⟩
    rcases z with z | ⟨u, c, h1, h2, -⟩
    · exact z
    · omega
  | succ k ih =>
    intro n i f e hn hf
    obtain ⟨n, rfl⟩ : ∃ j, n = j + 1 := ⟨n - 1, by omega⟩
    have hi : i < R := by omega
    obtain ⟨-, p15, -⟩ := hb i (by omega)
    obtain ⟨w, c, g, z1, z2, z3, z4, q1, q2, q3⟩ := hB i hi
    have hnl : ¬ (nI R : Int32) ≤ nI i := by rw [n_leF hi (by omega)]; exact fun z => z
    obtain ⟨-, t2, -, -⟩ := bt_16 b hb16 c (by omega)
    by_cases q : bt4 b c = true
    · have q' : ¬ (nI b &&& (nI 1 <<< (nI c &&& nI 31))) = nI 0 := fun z => (t2.mp z) q
      obtain ⟨f1', k1, k2, k3⟩ := c_n37 hS hb hi (k4 := pX11_neighbours_4 (nI R) (A 14) (A 15) n) (x1 := nI b) R 1000 0 f (by omega) (by omega) hf
      obtain ⟨f', k4, k5, k6⟩ := ih n (i + 1) f1' (by omega) (by omega) k1
      refine ⟨f', k4, ?_, fun d hd => ?_⟩
      · rw [← k5, ← k2, pX11_neighbours_4, if_neg hnl]
        simp (disch := omega) only [n_cl, gck_in, p15, q2]
        rw [n_lit, n_lit, n_lit, if_neg q']
      · rw [k6 d hd, k3 d hd]
        constructor
        · rintro ((h | ⟨z, h1, h2, h3, h4'⟩) | ⟨u, c', h1, h2, h3⟩)
          · exact Or.inl h
          · exact Or.inr ⟨i, c, Nat.le_refl _, hi, by omega, q2, q, z, h2, h3, h4'⟩
          · exact Or.inr ⟨u, c', by omega, h2, h3⟩
        · rintro (h | ⟨u, c', h1, h2, h3, h4', h5, z, h6, h7, h8⟩)
          · exact Or.inl (Or.inl h)
          · by_cases eu : u = i
            · subst eu; exact Or.inl (Or.inr ⟨z, Nat.zero_le _, h6, h7, h8⟩)
            · exact Or.inr ⟨u, c', by omega, h2, h3, h4', h5, z, h6, h7, h8⟩
    · have q' : (nI b &&& (nI 1 <<< (nI c &&& nI 31))) = nI 0 := t2.mpr q
      obtain ⟨f', k4, k5, k6⟩ := ih n (i + 1) f (by omega) (by omega) hf
      refine ⟨f', k4, ?_, fun d hd => ?_⟩
      · rw [← k5, pX11_neighbours_4, if_neg hnl]
        simp (disch := omega) only [n_cl, gck_in, p15, q2]
        rw [n_lit, n_lit, n_lit, if_pos q', n_a1]
      · rw [k6 d hd]
        constructor
        · rintro (h | ⟨u, c', h1, h2, h3⟩)
          · exact Or.inl h
          · exact Or.inr ⟨u, c', by omega, h2, h3⟩
        · rintro (h | ⟨u, c', h1, h2, h3, h4', h5, h6⟩)
          · exact Or.inl h
          · by_cases eu : u = i
            · subst eu
              rw [q2, n_eq (by omega) (by omega)] at h4'
              rw [h4'] at q
              exact absurd h5 q
            · exact Or.inr ⟨u, c', by omega, h2, h3, h4', h5, h6⟩
theorem bt_0 : ∀ d, d < 4 → bt4 0 d = false := by decide
theorem c_nb (hS : SV s W C y Hn R T) (hb : WB s A) {b : Nat} (hb16 : b < 16) : ∃ f, f < 16 ∧ pX11_neighbours (nI R) (A 14) (A 15) (nI b) = some (nI f) ∧ nor4 b f = nor4 b (nbs (MM s R W) b) := by
  obtain ⟨⟨hW, h10, hC, h4, -⟩, -, -, -, s54, h20, -, -, -, -, hB, -, -⟩ := id hS
  obtain ⟨f, k1, k2, k3⟩ := c_n4 hS hb hb16 R 1000 0 0 (by omega) (by omega) (by omega)
  refine ⟨f, k1, k2, ?_⟩
  have hbits : ∀ d, d < 4 → bt4 (nor4 b f) d = bt4 (nor4 b (nbs (MM s R W) b)) d := fun d hd => by
    have hiff : bt4 (nor4 b f) d = true ↔ bt4 (nor4 b (nbs (MM s R W) b)) d = true := by
      rw [nor_at b hb16 f k1 d hd, nor_at b hb16 _ (nbs_lt _ _) d hd, k3 d hd, nbs_at d hd, bt_0 d hd]
      constructor
      · rintro (h | h | ⟨u, c, h1, h2, h3, h4', h5, z, h6, h7, h8⟩)
        · exact Or.inl h
        · exact absurd h (by decide)
        · by_cases ecd : c = d
          · subst ecd; exact Or.inl h5
          · refine Or.inr ⟨c, h3, h5, ?_⟩
            rw [MM_eq h3 hd ecd, jb_adj hB]
            exact ⟨u, z, h2, h6, h4', h8, h7.symm⟩
      · rintro (h | ⟨c, hc, h5, hm⟩)
        · exact Or.inl h
        · by_cases ecd : c = d
          · subst ecd; rw [MM_self hc] at hm; exact absurd hm (by decide)
          · rw [MM_eq hc hd ecd, jb_adj hB] at hm
            obtain ⟨u, z, h2, h6, h4', h8, h7⟩ := hm
            exact Or.inr (Or.inr ⟨u, c, Nat.zero_le _, h2, hc, h4', h5, z, h6, h7.symm, h8⟩)
    cases e1 : bt4 (nor4 b f) d <;> cases e2 : bt4 (nor4 b (nbs (MM s R W) b)) d
    · rfl
    · exact absurd (hiff.mpr e2) (by rw [e1]; decide)
    · exact absurd (hiff.mp e1) (by rw [e2]; decide)
    · rfl
  exact bt_ext _ (or_16 b hb16 f k1).2 _ (or_16 b hb16 _ (nbs_lt _ _)).2 ⟨hbits 0 (by omega), hbits 1 (by omega), hbits 2 (by omega), hbits 3 (by omega)⟩
theorem c_n6 (hS : SV s W C y Hn R T) (hb : WB s A) : ∀ k n x : Nat, ∀ b : Nat, x + k = 4 → k < n → b < 16 → pX11_netOf_6 (nI R) (A 14) (A 15) n (nI b) (nI x) = some (nI (nco (MM s R W) k b)) := by
  intro k
  induction k with
  | zero =>
    intro n x b e hn hb16
    obtain ⟨n, rfl⟩ : ∃ j, n = j + 1 := ⟨n - 1, by omega⟩
    have e2 : x = 4 := by omega
    subst e2
    rw [pX11_netOf_6, if_pos (by decide)]; rfl
  | succ k ih =>
    intro n x b e hn hb16
    obtain ⟨n, rfl⟩ : ∃ j, n = j + 1 := ⟨n - 1, by omega⟩
    obtain ⟨f, k1, k2, k3⟩ := c_nb hS hb hb16
    have z := ih n (x + 1) (nor4 b (nbs (MM s R W) b)) (by omega) (by omega) (or_16 b hb16 _ (nbs_lt _ _)).2
    rw [nco, ← z, pX11_netOf_6, if_neg (by rw [n_lit, n_leF (by omega) (by omega)]; exact fun z => z), k2, gbd_s, gnm_e, (or_16 b hb16 f k1).1, k3, nI_1]
theorem c_net (hS : SV s W C y Hn R T) (hb : WB s A) {c : Nat} (hc : c < 4) : pX11_netOf (nI R) (A 14) (A 15) (nI c) = some (nI (nro (MM s R W) 4 (2 ^ c))) := by
  unfold pX11_netOf
  obtain ⟨p1, p2⟩ := p2_16 c hc
  have := c_n6 hS hb 3 1000 1 (2 ^ c) (by omega) (by omega) p2
  rw [show nro (MM s R W) 4 (2 ^ c) = nco (MM s R W) 3 (2 ^ c) from net_fin _ _ _ _ _ _ c hc]
  simp only [n_lit, gnm_e, p1]
  exact this
theorem j_hm (hS : SV s W C y Hn R T) (hb : WB s A) : ∀ k n n' c : Nat, ∀ m : Int32, c + k = C → k < n → k < n' → ∃ v, pX11_howManyNets_4 (nI C) (nI R) (A 14) (A 15) n m (nI c) = some v ∧ pX12_nets_34 s n' m (nI c) = some v := by
  obtain ⟨⟨hW, h10, hC, h4, -⟩, -⟩ := id hS
  intro k
  induction k with
  | zero =>
    intro n n' c m e hn hn'
    obtain ⟨n, rfl⟩ : ∃ j, n = j + 1 := ⟨n - 1, by omega⟩
    obtain ⟨n', rfl⟩ : ∃ j, n' = j + 1 := ⟨n' - 1, by omega⟩
    have e2 : c = C := by omega
    subst e2
    exact ⟨m, by rw [pX11_howManyNets_4, if_pos (n_leI.mpr (Int.le_refl _))], by simp (disch := omega) only [pX12_nets_34, n_lit, nI_add, nI_1, n_cl, gck_in, gck_t, gck_T, ↓gnm_e, gbd_s, ↓reduceIte, n_leT, n_leF, n_ltT, n_ltF, n_eqT, n_eqF, Nat.add_zero, Nat.zero_add, hC]⟩
  | succ k ih =>
    intro n n' c m e hn hn'
    obtain ⟨n, rfl⟩ : ∃ j, n = j + 1 := ⟨n - 1, by omega⟩
    obtain ⟨n', rfl⟩ : ∃ j, n' = j + 1 := ⟨n' - 1, by omega⟩
    have k1 := c_net hS hb (show c < 4 by omega)
    have k2 := r_net hS (show c < 4 by omega)
    have hnl : ¬ (nI C : Int32) ≤ nI c := by rw [n_leF (by omega) (by omega)]; exact fun z => z
    by_cases q : (nI (nro (MM s R W) 4 (2 ^ c)) &&& ((nI 1 <<< (nI c &&& nI 31)) - nI 1)) = nI 0
    · obtain ⟨v, k3, k4⟩ := ih n n' (c + 1) (m + nI 1) (by omega) (by omega) (by omega)
      refine ⟨v, ?_, ?_⟩
      · rw [← k3, pX11_howManyNets_4, if_neg hnl, k1, gbd_s]
        simp only [n_lit, q, if_true, nI_add]
      · rw [← k4]
        simp (disch := omega) only [pX12_nets_34, n_lit, nI_add, nI_1, n_cl, gck_in, gck_t, gck_T, ↓gnm_e, gbd_s, ↓reduceIte, n_leT, n_leF, n_ltT, n_ltF, n_eqT, n_eqF, Nat.add_zero, Nat.zero_add, hC, k2, q]
    · obtain ⟨v, k3, k4⟩ := ih n n' (c + 1) m (by omega) (by omega) (by omega)
      refine ⟨v, ?_, ?_⟩
      · rw [← k3, pX11_howManyNets_4, if_neg hnl, k1, gbd_s]
        simp only [n_lit, q, if_false, nI_add]
      · rw [← k4]
        simp (disch := omega) only [pX12_nets_34, n_lit, nI_add, nI_1, n_cl, gck_in, gck_t, gck_T, ↓gnm_e, gbd_s, ↓reduceIte, n_leT, n_leF, n_ltT, n_ltF, n_eqT, n_eqF, Nat.add_zero, Nat.zero_add, hC, k2, q, n_add0]
theorem m_nets (hS : SV s W C y Hn R T) (hR : WR F o A Cf h s) (x : Int32) : ∃ v, pX11_nets (o 1) (o 3) (A 14) (A 15) Cf x = some v ∧ pX12_nets s x = some v := by
  obtain ⟨⟨hW, h10, hC, h4, -⟩, -⟩ := id hS
  obtain ⟨e0, e1, -, e3, -, e5⟩ := wr_o hS hR
  unfold pX11_nets pX12_nets
  rw [e1, e3]
  have c52 : s (Int32.toNatClampNeg 52) = nI C := hC
  rw [gck_t (by decide), c52]
  by_cases xm : x = -1
  · subst xm
    have hin : pX12_in (-1) (-1) (nI C - 1) = some (nI 1) := in_t (by decide) (by
      rw [n_nlt, n_leI, show ((-1 : Int32).toInt) = -1 from by decide, n_lit, pk_sub_toInt (by omega) (by omega)]; omega)
    obtain ⟨v, k1, k2⟩ := j_hm hS hR.2.2.1 C 1000 1000 0 (nI 0) (by omega) (by omega) (by omega)
    refine ⟨v, ?_, ?_⟩
    · rw [if_pos rfl]
      unfold pX11_howManyNets
      rw [show pX11_howManyNets_4 (nI C) (nI R) (A 14) (A 15) 1000 0 0 = some v from k1, gbd_s]
    · rw [hin, gbd_s, ib1, if_pos rfl]
      exact k2
  · rw [if_neg xm]
    rcases x_lt x (n := C) (by omega) with ⟨c, hc, rfl⟩ | hx
    · obtain ⟨b, hb, hch⟩ := wr_cfs hS hR c hc
      have hin : pX12_in (nI c) (-1) (nI C - 1) = some (nI 1) := in_t (by
          rw [n_nlt, n_leI, show ((-1 : Int32).toInt) = -1 from by decide, n_ti (by omega)]; omega) (by
          rw [n_nlt, n_leI, n_lit, pk_sub_toInt (by omega) (by omega), n_ti (by omega)]; omega)
      exact ⟨_, by rw [c_chief h4 hc hb, gbd_s, gmt_s, c_net hS hR.2.2.1 (by omega), gbd_s], by rw [hin, gbd_s, ib1, if_neg xm, r_net hS (by omega), gbd_s]⟩
    · have hin : pX12_in x (-1) (nI C - 1) = some (nI 0) := in_f (by
        rcases hx with z | z
        · left
          rw [n_ltI, n_ti (by omega)] at z
          rw [n_ltI, show ((-1 : Int32).toInt) = -1 from by decide]
          have : x.toInt ≠ -1 := fun z2 => xm (n_eqI.mpr (z2.trans (by decide)))
          omega
        · right
          rw [n_leI, n_ti (by omega)] at z
          rw [n_lit, n_ltI, pk_sub_toInt (by omega) (by omega)]; omega)
      exact ⟨-1, by rw [cat_f hx, gbd_s, gmt_n], by rw [hin, gbd_s, ib0]⟩
end NETS
