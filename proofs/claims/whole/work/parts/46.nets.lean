/-! PURE SIDE: leans, nets -/
def f1 (s : Nat → Int32) (c w : Int32) : Nat → Nat → Option Nat
  | 0, _ => none
  | k + 1, x => if s (92 + x) = c ∧ s (72 + x) = w then some x else f1 s c w k (x + 1)
theorem f1_some {s : Nat → Int32} {c w : Int32} : ∀ k x r : Nat, f1 s c w k x = some r → x ≤ r ∧ r < x + k ∧ s (92 + r) = c ∧ s (72 + r) = w := by
  intro k
  induction k with
  | zero => intro x r h; cases h
  | succ k ih =>
    intro x r h
    rw [f1] at h
    by_cases q : s (92 + x) = c ∧ s (72 + x) = w
    · rw [if_pos q] at h; cases h; exact ⟨Nat.le_refl _, by omega, q.1, q.2⟩
    · rw [if_neg q] at h
      obtain ⟨h1, h2, h3, h4⟩ := ih (x + 1) r h
      exact ⟨by omega, by omega, h3, h4⟩
theorem f1_none {s : Nat → Int32} {c w : Int32} : ∀ k x : Nat, f1 s c w k x = none → ∀ r, x ≤ r → r < x + k → ¬ (s (92 + r) = c ∧ s (72 + r) = w) := by
  intro k
  induction k with
  | zero => intro x _ r h1 h2; omega
  | succ k ih =>
    intro x h r h1 h2
    rw [f1] at h
    by_cases q : s (92 + x) = c ∧ s (72 + x) = w
    · rw [if_pos q] at h; cases h
    · rw [if_neg q] at h
      by_cases e : r = x
      · rw [e]; exact q
      · exact ih (x + 1) h r (by omega) (by omega)
def fi (x : Option Nat) : Int32 := match x with
  | some r => nI r
  | none => -nI 1
def fg (s : Nat → Int32) (x : Option Nat) : Int32 := match x with
  | some r => s (112 + r)
  | none => nI 0
section NETS
variable {F : gF} {o : Nat → Int32} {A : Nat → Nat → Int32} {Cf : Nat → Option Nat} {h : Nat} {s : Nat → Int32} {W C y Hn R T : Nat}
theorem r_fr2 (s54 : s 54 = nI R) (h20 : R ≤ 20) {c w : Int32} : ∀ k n x : Nat, x + k = R → k < n → pX12_firstRow_2 s n c w (nI x) = some (fi (f1 s c w k x)) := by
  intro k
  induction k with
  | zero =>
    intro n x e hn
    obtain ⟨n, rfl⟩ : ∃ j, n = j + 1 := ⟨n - 1, by omega⟩
    have e2 : x = R := by omega
    subst e2
    simp (disch := omega) only [pX12_firstRow_2, n_lit, nI_add, nI_1, n_cl, gck_in, gck_t, gck_T, ↓gnm_e, gbd_s, ↓reduceIte, n_leT, n_leF, n_ltT, n_ltF, n_eqT, n_eqF, Nat.add_zero, Nat.zero_add, s54, f1, fi]
  | succ k ih =>
    intro n x e hn
    obtain ⟨n, rfl⟩ : ∃ j, n = j + 1 := ⟨n - 1, by omega⟩
    have z := ih n (x + 1) (by omega) (by omega)
    rw [f1]
    by_cases q1 : s (92 + x) = c
    · by_cases q2 : s (72 + x) = w
      · rw [if_pos ⟨q1, q2⟩]
        simp (disch := omega) only [pX12_firstRow_2, n_lit, nI_add, nI_1, n_cl, gck_in, gck_t, gck_T, ↓gnm_e, gbd_s, ↓reduceIte, n_leT, n_leF, n_ltT, n_ltF, n_eqT, n_eqF, Nat.add_zero, Nat.zero_add, s54, q1, q2, fi]
      · rw [if_neg (fun z => q2 z.2)]
        simp (disch := omega) only [pX12_firstRow_2, n_lit, nI_add, nI_1, n_cl, gck_in, gck_t, gck_T, ↓gnm_e, gbd_s, ↓reduceIte, n_leT, n_leF, n_ltT, n_ltF, n_eqT, n_eqF, Nat.add_zero, Nat.zero_add, s54, q1, q2, z]
    · rw [if_neg (fun z => q1 z.1)]
      simp (disch := omega) only [pX12_firstRow_2, n_lit, nI_add, nI_1, n_cl, gck_in, gck_t, gck_T, ↓gnm_e, gbd_s, ↓reduceIte, n_leT, n_leF, n_ltT, n_ltF, n_eqT, n_eqF, Nat.add_zero, Nat.zero_add, s54, q1, z]
theorem r_fr (s54 : s 54 = nI R) (h20 : R ≤ 20) (c w : Int32) : pX12_firstRow s c w = some (fi (f1 s c w R 0)) := by
  unfold pX12_firstRow
  exact r_fr2 s54 h20 R 1000 0 (by omega) (by omega)
theorem c_fg2 {a14 a15 a16 : Nat → Int32} (hb : ∀ r, r < 20 → a14 r = s (72 + r) ∧ a15 r = s (92 + r) ∧ a16 r = s (112 + r)) (h20 : R ≤ 20) {c w : Int32} : ∀ k n x : Nat, x + k = R → k < n → pX10_firstGrade_w0_2 (nI R) a14 a15 a16 n w c (nI x) = some (fg s (f1 s c w k x)) := by
  intro k
  induction k with
  | zero =>
    intro n x e hn
    obtain ⟨n, rfl⟩ : ∃ j, n = j + 1 := ⟨n - 1, by omega⟩
    have e2 : x = R := by omega
    subst e2
    simp (disch := omega) only [pX10_firstGrade_w0_2, n_lit, nI_add, nI_1, n_cl, gck_in, gck_t, gck_T, ↓gnm_e, gbd_s, ↓reduceIte, n_leT, n_leF, n_ltT, n_ltF, n_eqT, n_eqF, Nat.add_zero, Nat.zero_add, f1, fg]
  | succ k ih =>
    intro n x e hn
    obtain ⟨n, rfl⟩ : ∃ j, n = j + 1 := ⟨n - 1, by omega⟩
    have z := ih n (x + 1) (by omega) (by omega)
    obtain ⟨p1, p2, p3⟩ := hb x (by omega)
    rw [f1]
    by_cases q2 : s (72 + x) = w
    · by_cases q1 : s (92 + x) = c
      · rw [if_pos ⟨q1, q2⟩]
        simp (disch := omega) only [pX10_firstGrade_w0_2, n_lit, nI_add, nI_1, n_cl, gck_in, gck_t, gck_T, ↓gnm_e, gbd_s, ↓reduceIte, n_leT, n_leF, n_ltT, n_ltF, n_eqT, n_eqF, Nat.add_zero, Nat.zero_add, p1, p2, p3, q1, q2, fg]
      · rw [if_neg (fun z => q1 z.1)]
        simp (disch := omega) only [pX10_firstGrade_w0_2, n_lit, nI_add, nI_1, n_cl, gck_in, gck_t, gck_T, ↓gnm_e, gbd_s, ↓reduceIte, n_leT, n_leF, n_ltT, n_ltF, n_eqT, n_eqF, Nat.add_zero, Nat.zero_add, p1, p2, q1, q2, z]
    · rw [if_neg (fun z => q2 z.2)]
      simp (disch := omega) only [pX10_firstGrade_w0_2, n_lit, nI_add, nI_1, n_cl, gck_in, gck_t, gck_T, ↓gnm_e, gbd_s, ↓reduceIte, n_leT, n_leF, n_ltT, n_ltF, n_eqT, n_eqF, Nat.add_zero, Nat.zero_add, p1, q2, z]
theorem c_fg {a14 a15 a16 : Nat → Int32} (hb : ∀ r, r < 20 → a14 r = s (72 + r) ∧ a15 r = s (92 + r) ∧ a16 r = s (112 + r)) (h20 : R ≤ 20) (c w : Int32) : pX10_firstGrade_w0 (nI R) a14 a15 a16 w c = some (fg s (f1 s c w R 0)) := by
  unfold pX10_firstGrade_w0
  exact c_fg2 hb h20 R 1000 0 (by omega) (by omega)
/-- the sum and how many -/
def ls (s : Nat → Int32) (R : Nat) (c d : Int32) : Nat → Nat → Int32 × Nat → Int32 × Nat
  | 0, _, p => p
  | k + 1, x, p => ls s R c d k (x + 1) (match f1 s c (nI x) R 0, f1 s d (nI x) R 0 with
    | some i, some j => (p.1 + (s (112 + i) - s (112 + j)), p.2 + 1)
    | _, _ => p)
theorem fi_ne {r : Nat} (h : r < 1000) : (fi (some r) = -nI 1) = False := z_peq (by omega) (by omega) (by omega)
theorem r_leans43 (hW : s 51 = nI W) (h10 : W ≤ 10) (s54 : s 54 = nI R) (h20 : R ≤ 20) {c d x3 : Int32} : ∀ k n x : Nat, ∀ p : Int32 × Nat, x + k = W → k < n → pX12_leans_43 s n c d x3 p.1 (nI p.2) (nI x) = pX12_leans_120 s x3 (ls s R c d k x p).1 (nI (ls s R c d k x p).2) := by
  intro k
  induction k with
  | zero =>
    intro n x p e hn
    obtain ⟨n, rfl⟩ : ∃ j, n = j + 1 := ⟨n - 1, by omega⟩
    have e2 : x = W := by omega
    subst e2
    simp (disch := omega) only [pX12_leans_43, n_lit, nI_add, nI_1, n_cl, gck_in, gck_t, gck_T, ↓gnm_e, gbd_s, ↓reduceIte, n_leT, n_leF, n_ltT, n_ltF, n_eqT, n_eqF, Nat.add_zero, Nat.zero_add, hW, ls]
  | succ k ih =>
    intro n x p e hn
    obtain ⟨n, rfl⟩ : ∃ j, n = j + 1 := ⟨n - 1, by omega⟩
    have q1 := r_fr s54 h20 c (nI x)
    have q2 := r_fr s54 h20 d (nI x)
    rw [ls]
    cases e1 : f1 s c (nI x) R 0 with
    | none =>
      rw [e1] at q1
      have z := ih n (x + 1) p (by omega) (by omega)
      rw [← z]
      simp (disch := omega) only [pX12_leans_43, n_lit, nI_add, nI_1, n_cl, gck_in, gck_t, gck_T, ↓gnm_e, gbd_s, ↓reduceIte, n_leT, n_leF, n_ltT, n_ltF, n_eqT, n_eqF, Nat.add_zero, Nat.zero_add, hW, q1, q2, fi, z_neqT]
    | some i =>
      have hi := f1_some _ _ _ e1
      rw [e1] at q1
      cases e2 : f1 s d (nI x) R 0 with
      | none =>
        rw [e2] at q2
        have z := ih n (x + 1) p (by omega) (by omega)
        rw [← z]
        simp (disch := omega) only [pX12_leans_43, n_lit, nI_add, nI_1, n_cl, gck_in, gck_t, gck_T, ↓gnm_e, gbd_s, ↓reduceIte, n_leT, n_leF, n_ltT, n_ltF, n_eqT, n_eqF, Nat.add_zero, Nat.zero_add, hW, q1, q2, fi_ne, show fi none = -nI 1 from rfl, z_neqT]
      | some j =>
        have hj := f1_some _ _ _ e2
        rw [e2] at q2
        have z := ih n (x + 1) (p.1 + (s (112 + i) - s (112 + j)), p.2 + 1) (by omega) (by omega)
        rw [← z]
        simp (disch := omega) only [pX12_leans_43, n_lit, nI_add, nI_1, n_cl, gck_in, gck_t, gck_T, ↓gnm_e, gbd_s, ↓reduceIte, n_leT, n_leF, n_ltT, n_ltF, n_eqT, n_eqF, Nat.add_zero, Nat.zero_add, hW, q1, q2, fi_ne]
        simp (disch := omega) only [n_lit, nI_add, nI_1, n_cl, gck_in, gck_t, gck_T, ↓gnm_e, gbd_s, ↓reduceIte, n_leT, n_leF, n_ltT, n_ltF, n_eqT, n_eqF, Nat.add_zero, Nat.zero_add, show ∀ r, fi (some r) = nI r from fun _ => rfl]
theorem c_leans40 (h10 : W ≤ 10) {o1 : Int32} {a14 a15 a16 : Nat → Int32} (hb : ∀ r, r < 20 → a14 r = s (72 + r) ∧ a15 r = s (92 + r) ∧ a16 r = s (112 + r)) (hg : ∀ r, r < R → ∃ g : Nat, 1 ≤ g ∧ g ≤ 5 ∧ s (112 + r) = nI g) (h20 : R ≤ 20) {c d x3 : Int32} : ∀ k n x : Nat, ∀ p : Int32 × Nat, x + k = W → k < n → pX11_leans_40 (nI W) o1 (nI R) a14 a15 a16 Cf n c d x3 p.1 (nI p.2) (nI x) = (gbd (pX11_lowest (Int32.toInt64 (ls s R c d k x p).1) (Int32.toInt64 (nI (ls s R c d k x p).2)) x3) fun z_1 => some z_1) := by
  intro k
  induction k with
  | zero =>
    intro n x p e hn
    obtain ⟨n, rfl⟩ : ∃ j, n = j + 1 := ⟨n - 1, by omega⟩
    have e2 : x = W := by omega
    subst e2
    rw [pX11_leans_40, if_pos (n_leI.mpr (Int.le_refl _))]; rfl
  | succ k ih =>
    intro n x p e hn
    obtain ⟨n, rfl⟩ : ∃ j, n = j + 1 := ⟨n - 1, by omega⟩
    have q1 := c_fg hb h20 c (nI x)
    have q2 := c_fg hb h20 d (nI x)
    have hx : ¬ (nI W : Int32) ≤ nI x := by rw [n_leF (by omega) (by omega)]; exact fun z => z
    rw [ls, pX11_leans_40, if_neg hx, q1, gbd_s, q2, gbd_s]
    cases e1 : f1 s c (nI x) R 0 with
    | none =>
      have z := ih n (x + 1) p (by omega) (by omega)
      rw [show fg s none = nI 0 from rfl, ib0, nI_1]
      exact z
    | some i =>
      have hi := f1_some _ _ _ e1
      obtain ⟨g, g1, g2, g3⟩ := hg i (by omega)
      have ni : ¬ fg s (some i) = 0 := by
        show ¬ s (112 + i) = 0
        rw [g3, n_lit, n_eq (by omega) (by omega)]; omega
      rw [if_neg ni]
      cases e2 : f1 s d (nI x) R 0 with
      | none =>
        have z := ih n (x + 1) p (by omega) (by omega)
        rw [show fg s none = nI 0 from rfl, ib0, nI_1]
        exact z
      | some j =>
        have hj := f1_some _ _ _ e2
        obtain ⟨g', g1', g2', g3'⟩ := hg j (by omega)
        have nj : ¬ fg s (some j) = 0 := by
          show ¬ s (112 + j) = 0
          rw [g3', n_lit, n_eq (by omega) (by omega)]; omega
        have z := ih n (x + 1) (p.1 + (s (112 + i) - s (112 + j)), p.2 + 1) (by omega) (by omega)
        rw [if_neg nj, gnm_e, nI_1, nI_1]
        exact z
theorem ls_le {c d : Int32} : ∀ k x : Nat, ∀ p : Int32 × Nat, (ls s R c d k x p).2 ≤ p.2 + k := by
  intro k
  induction k with
  | zero => intro x p; exact Nat.le_refl _
  | succ k ih =>
    intro x p
    rw [ls]
    refine Nat.le_trans (ih (x + 1) _) ?_
    split <;> simp <;> omega
theorem sz_32 (x : Int32) : ∃ a, a ≤ 2147483648 ∧ SZ x.toInt64 a := by
  have h1 := Int32.le_toInt x
  have h2 := Int32.toInt_lt x
  by_cases z : 0 ≤ x.toInt
  · refine ⟨x.toInt.toNat, by omega, Or.inl ?_⟩
    apply Int64.toInt_inj.mp
    rw [Int32.toInt_toInt64, pk_lT (by omega)]; omega
  · refine ⟨(-x.toInt).toNat, by omega, Or.inr ?_⟩
    apply Int64.toInt_inj.mp
    rw [Int32.toInt_toInt64, l_neg (Nat.lt_of_le_of_lt (show (-x.toInt).toNat ≤ 2147483648 by omega) (by decide))]; omega
theorem m_leans (hS : SV s W C y Hn R T) (hR : WR F o A Cf h s) (x1 x2 x3 : Int32) : ∃ v, pX11_leans (o 0) (o 1) (o 3) (A 14) (A 15) (A 16) Cf x1 x2 x3 = some v ∧ pX12_leans s x1 x2 x3 = some v := by
  obtain ⟨⟨hW, h10, hC, h4, hy, hy2, hV, hK⟩, -, -, -, s54, h20, -, -, -, -, hB, -, -⟩ := id hS
  obtain ⟨e0, e1, -, e3, -, e5⟩ := wr_o hS hR
  unfold pX11_leans pX12_leans
  rw [e0, e1, e3]
  rcases x_lt x1 (n := C) (by omega) with ⟨c, hc, rfl⟩ | hx1
  · obtain ⟨b, hb, hch⟩ := wr_cfs hS hR c hc
    rw [c_chief h4 hc hb, gbd_s, gmt_s, isc_t hC h4 hc, gbd_s, ib1]
    rcases x_lt x2 (n := C) (by omega) with ⟨d, hd, rfl⟩ | hx2
    · obtain ⟨b', hb', hch'⟩ := wr_cfs hS hR d hd
      rw [c_chief h4 hd hb', gbd_s, gmt_s, isc_t hC h4 hd, gbd_s, ib1]
      by_cases ecd : nI c = nI d
      · rw [if_pos ecd, if_pos ecd]; exact ⟨_, rfl, rfl⟩
      · rw [if_neg ecd, if_neg ecd]
        have k1 := c_leans40 (s := s) (Cf := Cf) (o1 := nI C) h10 hR.2.2.1 (fun r hr => by
          obtain ⟨w, c, g, z1, z2, z3, z4, f1, f2, f3⟩ := hB r hr
          exact ⟨g, z3, z4, f3⟩) h20 (c := nI c) (d := nI d) (x3 := x3) W 1000 0 (nI 0, 0) (by omega) (by omega)
        have k2 := r_leans43 hW h10 s54 h20 (c := nI c) (d := nI d) (x3 := x3) W 1000 0 (nI 0, 0) (by omega) (by omega)
        have hcnt := ls_le (s := s) (R := R) (c := nI c) (d := nI d) W 0 (nI 0, 0)
        generalize ls s R (nI c) (nI d) W 0 (nI 0, 0) = q at *
        have k1' : pX11_leans_40 (nI W) (nI C) (nI R) (A 14) (A 15) (A 16) Cf 1000 (nI c) (nI d) x3 0 0 0 = gbd (pX11_lowest (Int32.toInt64 q.1) (Int32.toInt64 (nI q.2)) x3) fun z_1 => some z_1 := k1
        have k2' : pX12_leans_43 s 1000 (nI c) (nI d) x3 0 0 0 = pX12_leans_120 s x3 q.1 (nI q.2) := k2
        have hq : q.2 ≤ 10 := by simp at hcnt; omega
        have hl : Int32.toInt64 (nI q.2) = lN q.2 := nI_l (by omega)
        rw [k1', hl]
        by_cases q0 : q.2 = 0
        · have hn : pX11_lowest (Int32.toInt64 q.1) (lN q.2) x3 = some (-9223372036854775808) := by
            unfold pX11_lowest
            rw [if_pos (by rw [lg_cmp_le, l_lit, pk_lLE (by omega) (by omega)]; omega)]
          rw [hn, gbd_s]
          rcases x_in x3 (n := 1) (by decide) with ⟨p, hp, rfl⟩ | hx3
          · have z8 : pX12_in (nI p) 0 1 = some (nI 1) := in_nT (a := 0) (n := 1) (by omega) hp (by decide)
            rw [z8, gbd_s, ib1, k2']
            unfold pX12_leans_120
            rw [if_pos (by rw [q0]; rfl)]
            exact ⟨_, rfl, rfl⟩
          · have z8 : pX12_in x3 0 1 = some (nI 0) := in_f hx3
            rw [z8, gbd_s, ib0]; exact ⟨_, rfl, rfl⟩
        · obtain ⟨a, a1, a2⟩ := sz_32 q.1
          have a62 : a < 2 ^ 62 := Nat.lt_of_le_of_lt a1 (by decide)
          rcases x_in x3 (n := 1) (by decide) with ⟨p, hp, rfl⟩ | hx3
          · have z8 : pX12_in (nI p) 0 1 = some (nI 1) := in_nT (a := 0) (n := 1) (by omega) hp (by decide)
            have h120 : pX12_leans_120 s (nI p) q.1 (nI q.2) = some ((if p = 0 then Int32.toInt64 q.1 else lN q.2) / lN (Nat.gcd a q.2)) := by
              unfold pX12_leans_120
              rw [if_neg (show ¬ nI q.2 = 0 by rw [n_lit, n_eq (by omega) (by omega)]; exact q0), hl, low_r a2 a62 (by omega) (by omega) hp, gbd_s]
            rw [z8, gbd_s, ib1, k2', low_c a2 a62 (by omega) (by omega) hp, gbd_s, h120]
            exact ⟨_, rfl, rfl⟩
          · have z8 : pX12_in x3 0 1 = some (nI 0) := in_f hx3
            have hn : pX11_lowest (Int32.toInt64 q.1) (lN q.2) x3 = some (-9223372036854775808) := by
              unfold pX11_lowest
              rw [if_neg (by rw [lg_cmp_le, l_lit, pk_lLE (by omega) (by omega)]; omega)]
              by_cases w0 : x3 < 0
              · rw [if_pos w0]
              · rw [if_neg w0, if_neg (show ¬ x3 ≤ 1 from n_nle.mpr (hx3.resolve_left w0))]
            rw [z8, gbd_s, ib0, hn, gbd_s]; exact ⟨_, rfl, rfl⟩
    · rw [cat_f hx2, gbd_s, gmt_n, isc_f hC h4 hx2, gbd_s, ib0]; exact ⟨_, rfl, rfl⟩
  · rw [cat_f hx1, gbd_s, gmt_n, isc_f hC h4 hx1, gbd_s, ib0]; exact ⟨_, rfl, rfl⟩
end NETS
