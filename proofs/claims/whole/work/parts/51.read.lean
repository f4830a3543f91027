/-! PURE SIDE: reading a house, the small pieces -/
/-- one sign is due -/
def st1 (tp : Nat → Nat) (T c : Nat) (q : Nat × Bool) : Nat × Bool := if q.2 = false ∧ q.1 < T ∧ tp q.1 = c then (q.1 + 1, false) else (q.1, true)
def spl (tp : Nat → Nat) (T : Nat) : List Nat → Nat × Bool → Nat × Bool
  | [], q => q
  | c :: l, q => spl tp T l (st1 tp T c q)
def dg (c : Nat) : Bool := decide (48 ≤ c) && decide (c ≤ 57)
/-- a number: its value, and what is then -/
def num (tp : Nat → Nat) (T : Nat) (q : Nat × Bool) : Nat × (Nat × Bool) :=
  if q.2 = false ∧ q.1 < T ∧ dg (tp q.1) = true then
    (if q.1 + 1 < T ∧ dg (tp (q.1 + 1)) = true ∧ tp q.1 ≠ 48 then (10 * (tp q.1 - 48) + (tp (q.1 + 1) - 48), (q.1 + 2, false)) else (tp q.1 - 48, (q.1 + 1, false)))
  else (0, (q.1, true))
theorem st1_le {tp : Nat → Nat} {T c : Nat} {q : Nat × Bool} (h : q.1 ≤ T) : q.1 ≤ (st1 tp T c q).1 ∧ (st1 tp T c q).1 ≤ T := by
  unfold st1; split <;> simp <;> omega
theorem spl_le {tp : Nat → Nat} {T : Nat} : ∀ (l : List Nat) (q : Nat × Bool), q.1 ≤ T → q.1 ≤ (spl tp T l q).1 ∧ (spl tp T l q).1 ≤ T := by
  intro l
  induction l with
  | nil => intro q h; exact ⟨Nat.le_refl _, h⟩
  | cons c l ih =>
    intro q h
    have h1 := st1_le (tp := tp) (c := c) h
    have h2 := ih (st1 tp T c q) h1.2
    exact ⟨Nat.le_trans h1.1 h2.1, h2.2⟩
theorem num_le {tp : Nat → Nat} {T : Nat} {q : Nat × Bool} (h : q.1 ≤ T) : q.1 ≤ (num tp T q).2.1 ∧ (num tp T q).2.1 ≤ T ∧ (num tp T q).1 ≤ 99 := by
  unfold num
  split
  · rename_i z
    obtain ⟨z1, z2, z3⟩ := z
    simp only [dg, Bool.and_eq_true, decide_eq_true_eq] at z3
    split
    · rename_i y
      obtain ⟨y1, y2, y3⟩ := y
      simp only [dg, Bool.and_eq_true, decide_eq_true_eq] at y2
      simp; omega
    · simp; omega
  · simp; omega
theorem st1_w {tp : Nat → Nat} {T c : Nat} {q : Nat × Bool} (h : (st1 tp T c q).2 = false) : q.2 = false ∧ (st1 tp T c q).1 = q.1 + 1 := by
  unfold st1 at h ⊢
  split
  · rename_i z; exact ⟨z.1, rfl⟩
  · rename_i z; rw [if_neg z] at h; cases h
theorem num_w {tp : Nat → Nat} {T : Nat} {q : Nat × Bool} (h : (num tp T q).2.2 = false) : q.2 = false ∧ q.1 < (num tp T q).2.1 := by
  unfold num at h ⊢
  split
  · rename_i z
    refine ⟨z.1, ?_⟩
    split <;> simp
  · rename_i z; rw [if_neg z] at h; cases h
section RD
variable {t a3 : Nat → Int32} {tp : Nat → Nat} {T N : Nat}
/-- the tape, on both sides -/
def TPR (t : Nat → Int32) (tp : Nat → Nat) (T : Nat) : Prop := T ≤ 100 ∧ ∀ j, j < T → t (132 + j) = nI (tp j) ∧ tp j ≤ 127
theorem r_here (h : TPR t tp T) {p : Nat} (hp : p ≤ T) : pX12_here t (nI p) (nI T) = some (if p < T then nI (tp p) else -nI 1) := by
  have h1 := h.1
  unfold pX12_here
  by_cases z : p < T
  · have := (h.2 p z).1
    rw [if_pos z]
    simp (disch := omega) only [n_lit, nI_add, nI_1, n_cl, gck_in, gck_t, gck_T, ↓gnm_e, gbd_s, ↓reduceIte, n_leT, n_leF, n_ltT, n_ltF, n_eqT, n_eqF, Nat.add_zero, Nat.zero_add, this]
  · rw [if_neg z]
    simp (disch := omega) only [n_lit, nI_add, nI_1, n_cl, gck_in, gck_t, gck_T, ↓gnm_e, gbd_s, ↓reduceIte, n_leT, n_leF, n_ltT, n_ltF, n_eqT, n_eqF, Nat.add_zero, Nat.zero_add]
theorem c_sign (h : TPR t tp T) (h3 : ∀ j, j < T → a3 j = nI (tp j)) {p : Nat} (hp : p ≤ T) (w : Bool) : pX2_sign N a3 (nI T) (nI p) (ib w) = some (if w = false ∧ p < T then nI (tp p) else -nI 1) := by
  have h1 := h.1
  unfold pX2_sign
  cases w with
  | true => rw [if_neg (by decide), if_neg (by simp)]; rfl
  | false =>
    rw [if_pos (show ib false = (0 : Int32) from rfl)]
    by_cases z : p < T
    · have := h3 p z
      have e : (if false = false ∧ p < T then nI (tp p) else -nI 1) = nI (tp p) := if_pos ⟨rfl, z⟩
      rw [e]
      simp (disch := omega) only [n_lit, nI_add, nI_1, n_cl, gck_in, gck_t, gck_T, ↓gnm_e, gbd_s, ↓reduceIte, n_leT, n_leF, n_ltT, n_ltF, n_eqT, n_eqF, Nat.add_zero, Nat.zero_add, this]
    · have e : (if false = false ∧ p < T then nI (tp p) else -nI 1) = -nI 1 := if_neg (fun y => z y.2)
      rw [e]
      simp (disch := omega) only [n_lit, nI_add, nI_1, n_cl, gck_in, gck_t, gck_T, ↓gnm_e, gbd_s, ↓reduceIte, n_leT, n_leF, n_ltT, n_ltF, n_eqT, n_eqF, Nat.add_zero, Nat.zero_add]
theorem r_must (h : TPR t tp T) {p : Nat} (hp : p ≤ T) (w : Bool) {c : Nat} (hc : c ≤ 127) : pX12_must t (nI T) (nI p) (ib w) (nI c) = some (nI (st1 tp T c (p, w)).1, ib (st1 tp T c (p, w)).2) := by
  have h1 := h.1
  have hh := r_here h hp
  unfold pX12_must st1
  cases w with
  | true =>
    rw [if_neg (by decide), if_neg (by simp)]
    unfold pX12_must_21
    rw [gck_t (by decide), if_neg (by decide), n_lit, n_lit, nI_add]; rfl
  | false =>
    rw [if_pos (show ib false = (0 : Int32) from rfl), hh, gbd_s]
    by_cases z : p < T
    · have hb := (h.2 p z).2
      rw [if_pos z]
      by_cases z2 : tp p = c
      · rw [if_pos (by rw [z2]), if_pos ⟨rfl, z, z2⟩]
        unfold pX12_must_21
        rw [gck_t (by decide), if_pos rfl, nI_1]; rfl
      · rw [if_neg (by rw [n_eq (by omega) (by omega)]; exact z2), if_neg (fun y => z2 y.2.2)]
        unfold pX12_must_21
        rw [gck_t (by decide), if_neg (by decide), n_lit, n_lit, nI_add]; rfl
    · rw [if_neg z, if_neg (by rw [eq_comm, z_peq (by omega) (by omega) (by omega)]; exact fun z => z), if_neg (fun y => z y.2.1)]
      unfold pX12_must_21
      rw [gck_t (by decide), if_neg (by decide), n_lit, n_lit, nI_add]; rfl
theorem c_take (h : TPR t tp T) (h3 : ∀ j, j < T → a3 j = nI (tp j)) {p : Nat} (hp : p ≤ T) (w : Bool) {c : Nat} (hc : c ≤ 127) : pX2_take N a3 (nI T) (nI p) (ib w) (nI c) = some (ib (!(st1 tp T c (p, w)).2), nI (st1 tp T c (p, w)).1, ib (st1 tp T c (p, w)).2) := by
  have h1 := h.1
  have hs := c_sign (N := N) h h3 hp w
  unfold pX2_take st1
  rw [hs, gbd_s]
  by_cases z : w = false ∧ p < T
  · have hb := (h.2 p z.2).2
    rw [if_pos z]
    by_cases z2 : tp p = c
    · have e : (if w = false ∧ p < T ∧ tp p = c then (p + 1, false) else (p, true)) = (p + 1, false) := if_pos ⟨z.1, z.2, z2⟩
      rw [if_pos (by rw [z2])]
      simp only [e]
      rw [z.1, if_pos (show ib false = (0 : Int32) from rfl), nI_1]; rfl
    · rw [if_neg (by rw [n_eq (by omega) (by omega)]; exact z2), if_neg (fun y => z2 y.2.2)]; rfl
  · rw [if_neg z, if_neg (by rw [eq_comm, z_peq (by omega) (by omega) (by omega)]; exact fun z => z), if_neg (fun y => z ⟨y.1, y.2.1⟩)]; rfl
theorem r_fig (h : TPR t tp T) {p : Nat} (hp : p ≤ T) (w : Bool) : pX12_figures t (nI T) (nI p) (ib w) = some (nI (num tp T (p, w)).1, nI (num tp T (p, w)).2.1, ib (num tp T (p, w)).2.2) := by
  have h1 := h.1
  have bad : pX12_figures_34 t (nI T) 1000 (nI p) 1 0 0 = some (nI 0, nI p, nI 1) := by
    rw [show (1000 : Nat) = 999 + 1 from rfl, pX12_figures_34, if_neg (by decide), if_neg (by decide)]; rfl
  have hh := r_here h hp
  unfold pX12_figures num
  cases w with
  | true => rw [if_neg (by decide), if_neg (by simp), bad]; rfl
  | false =>
    rw [if_pos (show ib false = (0 : Int32) from rfl), hh, gbd_s]
    by_cases z : p < T
    · have hb := (h.2 p z).2
      rw [if_pos z]
      by_cases z2 : dg (tp p) = true
      · have z2' := z2
        simp only [dg, Bool.and_eq_true, decide_eq_true_eq] at z2'
        have hin : pX12_in (nI (tp p)) 48 57 = some (nI 1) := in_nT (a := 48) (n := 57) z2'.1 z2'.2 (by decide)
        rw [if_pos ⟨rfl, z, z2⟩, hin, gbd_s, ib1]
        have hh2 := r_here h (p := p + 1) (by omega)
        have hv : nI 10 * nI 0 + nI (tp p) - nI 48 = nI (tp p - 48) := by
          rw [pk_mul, nI_add, pk_sub (by omega)]; exact congrArg nI (by omega)
        have s1 : pX12_figures_34 t (nI T) 1000 (nI p) 0 0 0 = pX12_figures_34 t (nI T) 999 (nI (p + 1)) (nI 0) (nI (tp p - 48)) (nI 1) := by
          rw [show (1000 : Nat) = 999 + 1 from rfl, pX12_figures_34, if_neg (by decide), if_pos rfl, hh, if_pos z, gbd_s, hin, gbd_s, ib1, if_pos rfl]
          unfold pX12_figures_68
          rw [hh, if_pos z, gbd_s, gnm_e, show (10 : Int32) = nI 10 from rfl, show (0 : Int32) = nI 0 from rfl, show (48 : Int32) = nI 48 from rfl, hv, nI_1]; rfl
        rw [s1, show (999 : Nat) = 998 + 1 from rfl, pX12_figures_34, if_neg (by decide), if_pos (show nI 0 = (0 : Int32) from rfl), hh2, gbd_s]
        by_cases y : p + 1 < T ∧ dg (tp (p + 1)) = true ∧ tp p ≠ 48
        · obtain ⟨y1, y2, y3⟩ := y
          have hb2 := (h.2 (p + 1) y1).2
          have y2' := y2
          simp only [dg, Bool.and_eq_true, decide_eq_true_eq] at y2'
          have hin2 : pX12_in (nI (tp (p + 1))) 48 57 = some (nI 1) := in_nT (a := 48) (n := 57) y2'.1 y2'.2 (by decide)
          have hv2 : nI 10 * nI (tp p - 48) + nI (tp (p + 1)) - nI 48 = nI (10 * (tp p - 48) + (tp (p + 1) - 48)) := by
            rw [pk_mul, nI_add, pk_sub (by omega)]; exact congrArg nI (by omega)
          rw [if_pos y1, hin2, gbd_s, ib1, if_neg (by decide), if_neg (by rw [n_lit, n_leF (by omega) (by omega)]; exact fun z => z), if_pos ⟨y1, y2, y3⟩]
          unfold pX12_figures_68
          rw [hh2, if_pos y1, gbd_s, gnm_e, show (10 : Int32) = nI 10 from rfl, show (48 : Int32) = nI 48 from rfl, hv2, nI_1, nI_1, show (998 : Nat) = 997 + 1 from rfl, pX12_figures_34, if_pos (by decide)]
          rfl
        · rw [if_neg y]
          by_cases y1 : p + 1 < T
          · have hb2 := (h.2 (p + 1) y1).2
            rw [if_pos y1]
            by_cases y2 : dg (tp (p + 1)) = true
            · have y2' := y2
              simp only [dg, Bool.and_eq_true, decide_eq_true_eq] at y2'
              have hin2 : pX12_in (nI (tp (p + 1))) 48 57 = some (nI 1) := in_nT (a := 48) (n := 57) y2'.1 y2'.2 (by decide)
              have y3 : tp p = 48 := by
                by_cases q : tp p = 48
                · exact q
                · exact absurd ⟨y1, y2, q⟩ y
              rw [hin2, gbd_s, ib1, if_neg (by decide), if_pos (by rw [n_lit, n_leT (by omega) (by omega)]; trivial)]
              rfl
            · have hin2 : pX12_in (nI (tp (p + 1))) 48 57 = some (nI 0) := in_f (by
                simp only [dg, Bool.and_eq_true, decide_eq_true_eq, not_and] at y2
                rw [n_lit, n_lit, n_lt (by omega) (by omega), n_lt (by omega) (by omega)]; omega)
              rw [hin2, gbd_s, ib0]
              rfl
          · have hin2 : pX12_in (-nI 1) 48 57 = some (nI 0) := in_f (by decide)
            rw [if_neg y1, hin2, gbd_s, ib0]
            rfl
      · have hin : pX12_in (nI (tp p)) 48 57 = some (nI 0) := in_f (by
          simp only [dg, Bool.and_eq_true, decide_eq_true_eq, not_and] at z2
          rw [n_lit, n_lit, n_lt (by omega) (by omega), n_lt (by omega) (by omega)]; omega)
        rw [if_neg (fun y => z2 y.2.2), hin, gbd_s, ib0, bad]; rfl
    · have hin : pX12_in (-nI 1) 48 57 = some (nI 0) := in_f (by decide)
      rw [if_neg z, if_neg (fun y => z y.2.1), hin, gbd_s, ib0, bad]; rfl
theorem num_a {p : Nat} (w : Bool) (hn : ¬ (w = false ∧ p < T ∧ dg (tp p) = true)) : num tp T (p, w) = (0, (p, true)) := if_neg hn
theorem num_b {p : Nat} (z : p < T) (z2 : dg (tp p) = true) (hn : ¬ (p + 1 < T ∧ dg (tp (p + 1)) = true ∧ tp p ≠ 48)) : num tp T (p, false) = (tp p - 48, (p + 1, false)) := (if_pos (show (p, false).2 = false ∧ p < T ∧ dg (tp p) = true from ⟨rfl, z, z2⟩)).trans (if_neg hn)
theorem num_c {p : Nat} (z : p < T) (z2 : dg (tp p) = true) (hn : p + 1 < T ∧ dg (tp (p + 1)) = true ∧ tp p ≠ 48) : num tp T (p, false) = (10 * (tp p - 48) + (tp (p + 1) - 48), (p + 2, false)) := (if_pos (show (p, false).2 = false ∧ p < T ∧ dg (tp p) = true from ⟨rfl, z, z2⟩)).trans (if_pos hn)
theorem c_num (h : TPR t tp T) (h3 : ∀ j, j < T → a3 j = nI (tp j)) {p : Nat} (hp : p ≤ T) (w : Bool) : pX2_readNumber N a3 (nI T) (nI p) (ib w) = some (nI (num tp T (p, w)).1, nI (num tp T (p, w)).2.1, ib (num tp T (p, w)).2.2) := by
  have h1 := h.1
  have hs := c_sign (N := N) h h3 hp w
  unfold pX2_readNumber
  rw [hs, gbd_s]
  by_cases z : w = false ∧ p < T
  · have hb := (h.2 p z.2).2
    obtain ⟨zw, z⟩ := z
    subst zw
    have e : (if false = false ∧ p < T then nI (tp p) else -nI 1) = nI (tp p) := if_pos ⟨rfl, z⟩
    rw [e]
    by_cases z2 : dg (tp p) = true
    · have z2' := z2
      simp only [dg, Bool.and_eq_true, decide_eq_true_eq] at z2'
      have hs2 := c_sign (N := N) h h3 (p := p + 1) (by omega) false
      rw [if_neg (by rw [n_lit, n_ltF (by omega) (by omega)]; exact fun z => z), if_pos (by rw [n_lit, n_leT (by omega) (by omega)]; trivial), nI_1, hs2, gbd_s]
      have hv : nI (tp p) - 48 = nI (tp p - 48) := by rw [n_lit, pk_sub (by omega)]
      by_cases y3 : tp p = 48
      · rw [if_pos (by rw [y3]; rfl), num_b z z2 (fun y => y.2.2 y3), hv]
      · rw [if_neg (show ¬ nI (tp p) = 48 by rw [n_lit, n_eq (by omega) (by omega)]; exact y3), hv]
        by_cases y1 : p + 1 < T
        · have hb2 := (h.2 (p + 1) y1).2
          have e2 : (if false = false ∧ p + 1 < T then nI (tp (p + 1)) else -nI 1) = nI (tp (p + 1)) := if_pos ⟨rfl, y1⟩
          rw [e2]
          by_cases y2 : dg (tp (p + 1)) = true
          · have y2' := y2
            simp only [dg, Bool.and_eq_true, decide_eq_true_eq] at y2'
            have hv2 : 10 * nI (tp p - 48) + nI (tp (p + 1)) - 48 = nI (10 * (tp p - 48) + (tp (p + 1) - 48)) := by
              rw [show (10 : Int32) = nI 10 from rfl, show (48 : Int32) = nI 48 from rfl, pk_mul, nI_add, pk_sub (by omega)]; exact congrArg nI (by omega)
            rw [if_neg (by rw [n_lit, n_ltF (by omega) (by omega)]; exact fun z => z), if_pos (by rw [n_lit, n_leT (by omega) (by omega)]; trivial), hv2, nI_1, num_c z z2 ⟨y1, y2, y3⟩]
          · rw [num_b z z2 (fun y => y2 y.2.1)]
            simp only [dg, Bool.and_eq_true, decide_eq_true_eq, not_and] at y2
            by_cases q : tp (p + 1) < 48
            · rw [if_pos (by rw [n_lit, n_ltT q (by omega)]; trivial)]
            · rw [if_neg (by rw [n_lit, n_ltF (by omega) (by omega)]; exact fun z => z), if_neg (by rw [n_lit, n_leF (by omega) (by omega)]; exact fun z => z)]
        · have e2 : (if false = false ∧ p + 1 < T then nI (tp (p + 1)) else -nI 1) = -nI 1 := if_neg (fun y => y1 y.2)
          rw [e2, num_b z z2 (fun y => y1 y.1), if_pos (by decide)]
    · rw [num_a false (fun y => z2 y.2.2)]
      simp only [dg, Bool.and_eq_true, decide_eq_true_eq, not_and] at z2
      by_cases q : tp p < 48
      · rw [if_pos (by rw [n_lit, n_ltT q (by omega)]; trivial)]; rfl
      · rw [if_neg (by rw [n_lit, n_ltF (by omega) (by omega)]; exact fun z => z), if_neg (by rw [n_lit, n_leF (by omega) (by omega)]; exact fun z => z)]; rfl
  · rw [if_neg z, if_pos (by decide), num_a w (fun y => z ⟨y.1, y.2.1⟩)]; rfl
def lx0 : List Nat := [109, 111, 114, 101, 32]
theorem jl_0 : pJ0_length_8abf5 0 = some (nI 5) := by decide +kernel
theorem jc_0 : ∀ i, i < 5 → pJ0_charAt_5068e 0 (nI i) = some (nI (lx0.getD i 0)) := by decide +kernel
theorem r_sp0 (h : TPR t tp T) : ∀ k n i p : Nat, ∀ w : Bool, i + k = 5 → k < n → p ≤ T → pX12_spells_s0_2 t (nI T) n (nI p) (ib w) (nI i) = some (nI (spl tp T (lx0.drop i) (p, w)).1, ib (spl tp T (lx0.drop i) (p, w)).2) := by
  intro k
  induction k with
  | zero =>
    intro n i p w e hn hp
    obtain ⟨n, rfl⟩ : ∃ j, n = j + 1 := ⟨n - 1, by omega⟩
    have e2 : i = 5 := by omega
    subst e2
    rw [pX12_spells_s0_2, jl_0, gbd_s, if_pos (by decide)]; rfl
  | succ k ih =>
    intro n i p w e hn hp
    obtain ⟨n, rfl⟩ : ∃ j, n = j + 1 := ⟨n - 1, by omega⟩
    have hc : ∀ i, i < 5 → lx0.getD i 0 ≤ 127 ∧ lx0.drop i = lx0.getD i 0 :: lx0.drop (i + 1) := by decide
    obtain ⟨c1, c2⟩ := hc i (by omega)
    have hm := r_must h hp w c1
    have z := ih n (i + 1) (st1 tp T (lx0.getD i 0) (p, w)).1 (st1 tp T (lx0.getD i 0) (p, w)).2 (by omega) (by omega) (st1_le (q := (p, w)) hp).2
    rw [pX12_spells_s0_2, jl_0, gbd_s, if_neg (by rw [n_leF (by omega) (by omega)]; exact fun z => z), jc_0 i (by omega), gbd_s, hm, gbd_s, nI_1, z, c2]
    rfl
theorem c_ta0 (h : TPR t tp T) (h3 : ∀ j, j < T → a3 j = nI (tp j)) : ∀ k n i p : Nat, ∀ w : Bool, i + k = 5 → k < n → p ≤ T → pX2_takeAll_s0_2 N a3 (nI T) n (nI p) (ib w) (nI i) = some (nI (spl tp T (lx0.drop i) (p, w)).1, ib (spl tp T (lx0.drop i) (p, w)).2) := by
  intro k
  induction k with
  | zero =>
    intro n i p w e hn hp
    obtain ⟨n, rfl⟩ : ∃ j, n = j + 1 := ⟨n - 1, by omega⟩
    have e2 : i = 5 := by omega
    subst e2
    rw [pX2_takeAll_s0_2, jl_0, gbd_s, if_pos (by decide)]; rfl
  | succ k ih =>
    intro n i p w e hn hp
    obtain ⟨n, rfl⟩ : ∃ j, n = j + 1 := ⟨n - 1, by omega⟩
    have hc : ∀ i, i < 5 → lx0.getD i 0 ≤ 127 ∧ lx0.drop i = lx0.getD i 0 :: lx0.drop (i + 1) := by decide
    obtain ⟨c1, c2⟩ := hc i (by omega)
    have hm := c_take (N := N) h h3 hp w c1
    have z := ih n (i + 1) (st1 tp T (lx0.getD i 0) (p, w)).1 (st1 tp T (lx0.getD i 0) (p, w)).2 (by omega) (by omega) (st1_le (q := (p, w)) hp).2
    rw [pX2_takeAll_s0_2, jl_0, gbd_s, if_neg (by rw [n_leF (by omega) (by omega)]; exact fun z => z), jc_0 i (by omega), gbd_s, hm, gbd_s, nI_1, z, c2]
    rfl
def lx2 : List Nat := [108, 101, 115, 115, 32]
theorem jl_2 : pJ0_length_8abf5 2 = some (nI 5) := by decide +kernel
theorem jc_2 : ∀ i, i < 5 → pJ0_charAt_5068e 2 (nI i) = some (nI (lx2.getD i 0)) := by decide +kernel
theorem r_sp2 (h : TPR t tp T) : ∀ k n i p : Nat, ∀ w : Bool, i + k = 5 → k < n → p ≤ T → pX12_spells_s2_2 t (nI T) n (nI p) (ib w) (nI i) = some (nI (spl tp T (lx2.drop i) (p, w)).1, ib (spl tp T (lx2.drop i) (p, w)).2) := by
  intro k
  induction k with
  | zero =>
    intro n i p w e hn hp
    obtain ⟨n, rfl⟩ : ∃ j, n = j + 1 := ⟨n - 1, by omega⟩
    have e2 : i = 5 := by omega
    subst e2
    rw [pX12_spells_s2_2, jl_2, gbd_s, if_pos (by decide)]; rfl
  | succ k ih =>
    intro n i p w e hn hp
    obtain ⟨n, rfl⟩ : ∃ j, n = j + 1 := ⟨n - 1, by omega⟩
    have hc : ∀ i, i < 5 → lx2.getD i 0 ≤ 127 ∧ lx2.drop i = lx2.getD i 0 :: lx2.drop (i + 1) := by decide
    obtain ⟨c1, c2⟩ := hc i (by omega)
    have hm := r_must h hp w c1
    have z := ih n (i + 1) (st1 tp T (lx2.getD i 0) (p, w)).1 (st1 tp T (lx2.getD i 0) (p, w)).2 (by omega) (by omega) (st1_le (q := (p, w)) hp).2
    rw [pX12_spells_s2_2, jl_2, gbd_s, if_neg (by rw [n_leF (by omega) (by omega)]; exact fun z => z), jc_2 i (by omega), gbd_s, hm, gbd_s, nI_1, z, c2]
    rfl
theorem c_ta2 (h : TPR t tp T) (h3 : ∀ j, j < T → a3 j = nI (tp j)) : ∀ k n i p : Nat, ∀ w : Bool, i + k = 5 → k < n → p ≤ T → pX2_takeAll_s2_2 N a3 (nI T) n (nI p) (ib w) (nI i) = some (nI (spl tp T (lx2.drop i) (p, w)).1, ib (spl tp T (lx2.drop i) (p, w)).2) := by
  intro k
  induction k with
  | zero =>
    intro n i p w e hn hp
    obtain ⟨n, rfl⟩ : ∃ j, n = j + 1 := ⟨n - 1, by omega⟩
    have e2 : i = 5 := by omega
    subst e2
    rw [pX2_takeAll_s2_2, jl_2, gbd_s, if_pos (by decide)]; rfl
  | succ k ih =>
    intro n i p w e hn hp
    obtain ⟨n, rfl⟩ : ∃ j, n = j + 1 := ⟨n - 1, by omega⟩
    have hc : ∀ i, i < 5 → lx2.getD i 0 ≤ 127 ∧ lx2.drop i = lx2.getD i 0 :: lx2.drop (i + 1) := by decide
    obtain ⟨c1, c2⟩ := hc i (by omega)
    have hm := c_take (N := N) h h3 hp w c1
    have z := ih n (i + 1) (st1 tp T (lx2.getD i 0) (p, w)).1 (st1 tp T (lx2.getD i 0) (p, w)).2 (by omega) (by omega) (st1_le (q := (p, w)) hp).2
    rw [pX2_takeAll_s2_2, jl_2, gbd_s, if_neg (by rw [n_leF (by omega) (by omega)]; exact fun z => z), jc_2 i (by omega), gbd_s, hm, gbd_s, nI_1, z, c2]
    rfl
def lx3 : List Nat := [102, 105, 118, 101, 32]
theorem jl_3 : pJ0_length_8abf5 3 = some (nI 5) := by decide +kernel
theorem jc_3 : ∀ i, i < 5 → pJ0_charAt_5068e 3 (nI i) = some (nI (lx3.getD i 0)) := by decide +kernel
theorem r_sp3 (h : TPR t tp T) : ∀ k n i p : Nat, ∀ w : Bool, i + k = 5 → k < n → p ≤ T → pX12_spells_s3_2 t (nI T) n (nI p) (ib w) (nI i) = some (nI (spl tp T (lx3.drop i) (p, w)).1, ib (spl tp T (lx3.drop i) (p, w)).2) := by
  intro k
  induction k with
  | zero =>
    intro n i p w e hn hp
    obtain ⟨n, rfl⟩ : ∃ j, n = j + 1 := ⟨n - 1, by omega⟩
    have e2 : i = 5 := by omega
    subst e2
    rw [pX12_spells_s3_2, jl_3, gbd_s, if_pos (by decide)]; rfl
  | succ k ih =>
    intro n i p w e hn hp
    obtain ⟨n, rfl⟩ : ∃ j, n = j + 1 := ⟨n - 1, by omega⟩
    have hc : ∀ i, i < 5 → lx3.getD i 0 ≤ 127 ∧ lx3.drop i = lx3.getD i 0 :: lx3.drop (i + 1) := by decide
    obtain ⟨c1, c2⟩ := hc i (by omega)
    have hm := r_must h hp w c1
    have z := ih n (i + 1) (st1 tp T (lx3.getD i 0) (p, w)).1 (st1 tp T (lx3.getD i 0) (p, w)).2 (by omega) (by omega) (st1_le (q := (p, w)) hp).2
    rw [pX12_spells_s3_2, jl_3, gbd_s, if_neg (by rw [n_leF (by omega) (by omega)]; exact fun z => z), jc_3 i (by omega), gbd_s, hm, gbd_s, nI_1, z, c2]
    rfl
theorem c_ta3 (h : TPR t tp T) (h3 : ∀ j, j < T → a3 j = nI (tp j)) : ∀ k n i p : Nat, ∀ w : Bool, i + k = 5 → k < n → p ≤ T → pX2_takeAll_s3_2 N a3 (nI T) n (nI p) (ib w) (nI i) = some (nI (spl tp T (lx3.drop i) (p, w)).1, ib (spl tp T (lx3.drop i) (p, w)).2) := by
  intro k
  induction k with
  | zero =>
    intro n i p w e hn hp
    obtain ⟨n, rfl⟩ : ∃ j, n = j + 1 := ⟨n - 1, by omega⟩
    have e2 : i = 5 := by omega
    subst e2
    rw [pX2_takeAll_s3_2, jl_3, gbd_s, if_pos (by decide)]; rfl
  | succ k ih =>
    intro n i p w e hn hp
    obtain ⟨n, rfl⟩ : ∃ j, n = j + 1 := ⟨n - 1, by omega⟩
    have hc : ∀ i, i < 5 → lx3.getD i 0 ≤ 127 ∧ lx3.drop i = lx3.getD i 0 :: lx3.drop (i + 1) := by decide
    obtain ⟨c1, c2⟩ := hc i (by omega)
    have hm := c_take (N := N) h h3 hp w c1
    have z := ih n (i + 1) (st1 tp T (lx3.getD i 0) (p, w)).1 (st1 tp T (lx3.getD i 0) (p, w)).2 (by omega) (by omega) (st1_le (q := (p, w)) hp).2
    rw [pX2_takeAll_s3_2, jl_3, gbd_s, if_neg (by rw [n_leF (by omega) (by omega)]; exact fun z => z), jc_3 i (by omega), gbd_s, hm, gbd_s, nI_1, z, c2]
    rfl
def lx4 : List Nat := [111, 110, 101, 32]
theorem jl_4 : pJ0_length_8abf5 4 = some (nI 4) := by decide +kernel
theorem jc_4 : ∀ i, i < 4 → pJ0_charAt_5068e 4 (nI i) = some (nI (lx4.getD i 0)) := by decide +kernel
theorem r_sp4 (h : TPR t tp T) : ∀ k n i p : Nat, ∀ w : Bool, i + k = 4 → k < n → p ≤ T → pX12_spells_s4_2 t (nI T) n (nI p) (ib w) (nI i) = some (nI (spl tp T (lx4.drop i) (p, w)).1, ib (spl tp T (lx4.drop i) (p, w)).2) := by
  intro k
  induction k with
  | zero =>
    intro n i p w e hn hp
    obtain ⟨n, rfl⟩ : ∃ j, n = j + 1 := ⟨n - 1, by omega⟩
    have e2 : i = 4 := by omega
    subst e2
    rw [pX12_spells_s4_2, jl_4, gbd_s, if_pos (by decide)]; rfl
  | succ k ih =>
    intro n i p w e hn hp
    obtain ⟨n, rfl⟩ : ∃ j, n = j + 1 := ⟨n - 1, by omega⟩
    have hc : ∀ i, i < 4 → lx4.getD i 0 ≤ 127 ∧ lx4.drop i = lx4.getD i 0 :: lx4.drop (i + 1) := by decide
    obtain ⟨c1, c2⟩ := hc i (by omega)
    have hm := r_must h hp w c1
    have z := ih n (i + 1) (st1 tp T (lx4.getD i 0) (p, w)).1 (st1 tp T (lx4.getD i 0) (p, w)).2 (by omega) (by omega) (st1_le (q := (p, w)) hp).2
    rw [pX12_spells_s4_2, jl_4, gbd_s, if_neg (by rw [n_leF (by omega) (by omega)]; exact fun z => z), jc_4 i (by omega), gbd_s, hm, gbd_s, nI_1, z, c2]
    rfl
theorem c_ta4 (h : TPR t tp T) (h3 : ∀ j, j < T → a3 j = nI (tp j)) : ∀ k n i p : Nat, ∀ w : Bool, i + k = 4 → k < n → p ≤ T → pX2_takeAll_s4_2 N a3 (nI T) n (nI p) (ib w) (nI i) = some (nI (spl tp T (lx4.drop i) (p, w)).1, ib (spl tp T (lx4.drop i) (p, w)).2) := by
  intro k
  induction k with
  | zero =>
    intro n i p w e hn hp
    obtain ⟨n, rfl⟩ : ∃ j, n = j + 1 := ⟨n - 1, by omega⟩
    have e2 : i = 4 := by omega
    subst e2
    rw [pX2_takeAll_s4_2, jl_4, gbd_s, if_pos (by decide)]; rfl
  | succ k ih =>
    intro n i p w e hn hp
    obtain ⟨n, rfl⟩ : ∃ j, n = j + 1 := ⟨n - 1, by omega⟩
    have hc : ∀ i, i < 4 → lx4.getD i 0 ≤ 127 ∧ lx4.drop i = lx4.getD i 0 :: lx4.drop (i + 1) := by decide
    obtain ⟨c1, c2⟩ := hc i (by omega)
    have hm := c_take (N := N) h h3 hp w c1
    have z := ih n (i + 1) (st1 tp T (lx4.getD i 0) (p, w)).1 (st1 tp T (lx4.getD i 0) (p, w)).2 (by omega) (by omega) (st1_le (q := (p, w)) hp).2
    rw [pX2_takeAll_s4_2, jl_4, gbd_s, if_neg (by rw [n_leF (by omega) (by omega)]; exact fun z => z), jc_4 i (by omega), gbd_s, hm, gbd_s, nI_1, z, c2]
    rfl
def lx5 : List Nat := [112, 97, 121, 32]
theorem jl_5 : pJ0_length_8abf5 5 = some (nI 4) := by decide +kernel
theorem jc_5 : ∀ i, i < 4 → pJ0_charAt_5068e 5 (nI i) = some (nI (lx5.getD i 0)) := by decide +kernel
theorem r_sp5 (h : TPR t tp T) : ∀ k n i p : Nat, ∀ w : Bool, i + k = 4 → k < n → p ≤ T → pX12_spells_s5_2 t (nI T) n (nI p) (ib w) (nI i) = some (nI (spl tp T (lx5.drop i) (p, w)).1, ib (spl tp T (lx5.drop i) (p, w)).2) := by
  intro k
  induction k with
  | zero =>
    intro n i p w e hn hp
    obtain ⟨n, rfl⟩ : ∃ j, n = j + 1 := ⟨n - 1, by omega⟩
    have e2 : i = 4 := by omega
    subst e2
    rw [pX12_spells_s5_2, jl_5, gbd_s, if_pos (by decide)]; rfl
  | succ k ih =>
    intro n i p w e hn hp
    obtain ⟨n, rfl⟩ : ∃ j, n = j + 1 := ⟨n - 1, by omega⟩
    have hc : ∀ i, i < 4 → lx5.getD i 0 ≤ 127 ∧ lx5.drop i = lx5.getD i 0 :: lx5.drop (i + 1) := by decide
    obtain ⟨c1, c2⟩ := hc i (by omega)
    have hm := r_must h hp w c1
    have z := ih n (i + 1) (st1 tp T (lx5.getD i 0) (p, w)).1 (st1 tp T (lx5.getD i 0) (p, w)).2 (by omega) (by omega) (st1_le (q := (p, w)) hp).2
    rw [pX12_spells_s5_2, jl_5, gbd_s, if_neg (by rw [n_leF (by omega) (by omega)]; exact fun z => z), jc_5 i (by omega), gbd_s, hm, gbd_s, nI_1, z, c2]
    rfl
theorem c_ta5 (h : TPR t tp T) (h3 : ∀ j, j < T → a3 j = nI (tp j)) : ∀ k n i p : Nat, ∀ w : Bool, i + k = 4 → k < n → p ≤ T → pX2_takeAll_s5_2 N a3 (nI T) n (nI p) (ib w) (nI i) = some (nI (spl tp T (lx5.drop i) (p, w)).1, ib (spl tp T (lx5.drop i) (p, w)).2) := by
  intro k
  induction k with
  | zero =>
    intro n i p w e hn hp
    obtain ⟨n, rfl⟩ : ∃ j, n = j + 1 := ⟨n - 1, by omega⟩
    have e2 : i = 4 := by omega
    subst e2
    rw [pX2_takeAll_s5_2, jl_5, gbd_s, if_pos (by decide)]; rfl
  | succ k ih =>
    intro n i p w e hn hp
    obtain ⟨n, rfl⟩ : ∃ j, n = j + 1 := ⟨n - 1, by omega⟩
    have hc : ∀ i, i < 4 → lx5.getD i 0 ≤ 127 ∧ lx5.drop i = lx5.getD i 0 :: lx5.drop (i + 1) := by decide
    obtain ⟨c1, c2⟩ := hc i (by omega)
    have hm := c_take (N := N) h h3 hp w c1
    have z := ih n (i + 1) (st1 tp T (lx5.getD i 0) (p, w)).1 (st1 tp T (lx5.getD i 0) (p, w)).2 (by omega) (by omega) (st1_le (q := (p, w)) hp).2
    rw [pX2_takeAll_s5_2, jl_5, gbd_s, if_neg (by rw [n_leF (by omega) (by omega)]; exact fun z => z), jc_5 i (by omega), gbd_s, hm, gbd_s, nI_1, z, c2]
    rfl
end RD
