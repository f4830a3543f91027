/-! PURE SIDE: wrong, acts -/
section METH
variable {F : gF} {o : Nat → Int32} {A : Nat → Nat → Int32} {Cf : Nat → Option Nat} {h : Nat} {s : Nat → Int32} {W C y Hn R T : Nat}
/-- who is graded wrongly -/
def wq (s : Nat → Int32) (w : Nat) : Bool := !decide (GS s w = DU s w)
def wl (s : Nat → Int32) (w : Nat) : Bool := decide (GS s w < DU s w)
theorem r_wr26 (hI : IV s W C y) {a10 a11 a12 a13 a14 a15 : Nat → Int32} (hg : ∀ w, w < W → a13 w = GS s w) (hd : ∀ w, w < W → a14 w = DU s w) {x1 : Int32} {q : Nat → Bool} (hq : ∀ w, w < W → q w = if x1 = nI 0 then wq s w else wl s w) : ∀ k n x : Nat, x + k = W → k < n → pX12_wrong_26 s n a10 a11 a12 a13 a14 a15 x1 (nI (tb q x)) (sm (al W) (GS s) x) (nI x) = some (if x1 = nI 2 then sm (al W) (GS s) W else nI (tb q W), a10, a11, a12, a13, a14, a15) := by
  have hW := hI.1
  have h10 := hI.2.1
  intro k
  induction k with
  | zero =>
    intro n x e hn
    obtain ⟨n, rfl⟩ : ∃ j, n = j + 1 := ⟨n - 1, by omega⟩
    have e2 : x = W := by omega
    subst e2
    by_cases z : x1 = nI 2
    · simp (disch := omega) only [pX12_wrong_26, n_lit, nI_add, nI_1, n_cl, gck_in, gck_t, gck_T, ↓gnm_e, gbd_s, ↓reduceIte, n_leT, n_leF, n_ltT, n_ltF, n_eqT, n_eqF, Nat.add_zero, Nat.zero_add, hW, z]
    · simp (disch := omega) only [pX12_wrong_26, n_lit, nI_add, nI_1, n_cl, gck_in, gck_t, gck_T, ↓gnm_e, gbd_s, ↓reduceIte, n_leT, n_leF, n_ltT, n_ltF, n_eqT, n_eqF, Nat.add_zero, Nat.zero_add, hW, z]
  | succ k ih =>
    intro n x e hn
    obtain ⟨n, rfl⟩ : ∃ j, n = j + 1 := ⟨n - 1, by omega⟩
    have hxW : x < W := by omega
    have z := ih n (x + 1) (by omega) (by omega)
    rw [sm_t (al_t.mpr hxW)] at z
    have hqx := hq x hxW
    have hgx := hg x hxW
    have hdx := hd x hxW
    have hor := tb_or x (show x < 10 by omega) _ (tb_lt q x)
    by_cases z0 : x1 = nI 0
    · subst z0
      rw [if_pos rfl] at hqx
      unfold wq at hqx
      by_cases z1 : GS s x = DU s x
      · rw [tb_f (by rw [hqx]; simp [z1])] at z
        rw [z1] at z
        simp (disch := omega) only [n_lit, nI_add, nI_1, n_cl, gck_in, gck_t, gck_T, ↓gnm_e, gbd_s, ↓reduceIte, n_leT, n_leF, n_ltT, n_ltF, n_eqT, n_eqF, Nat.add_zero, Nat.zero_add] at z
        simp (disch := omega) only [pX12_wrong_26, pX12_wrong_89, n_lit, nI_add, nI_1, n_cl, gck_in, gck_t, gck_T, ↓gnm_e, gbd_s, ↓reduceIte, n_leT, n_leF, n_ltT, n_ltF, n_eqT, n_eqF, Nat.add_zero, Nat.zero_add, hW, hgx, hdx, z1, z_or0, z]
      · rw [tb_t (by rw [hqx]; simp [z1])] at z
        simp (disch := omega) only [n_lit, nI_add, nI_1, n_cl, gck_in, gck_t, gck_T, ↓gnm_e, gbd_s, ↓reduceIte, n_leT, n_leF, n_ltT, n_ltF, n_eqT, n_eqF, Nat.add_zero, Nat.zero_add] at z
        simp (disch := omega) only [pX12_wrong_26, pX12_wrong_89, n_lit, nI_add, nI_1, n_cl, gck_in, gck_t, gck_T, ↓gnm_e, gbd_s, ↓reduceIte, n_leT, n_leF, n_ltT, n_ltF, n_eqT, n_eqF, Nat.add_zero, Nat.zero_add, hW, hgx, hdx, z1, hor, z]
    · rw [if_neg z0] at hqx
      unfold wl at hqx
      by_cases z1 : DU s x ≤ GS s x
      · rw [tb_f (by rw [hqx]; simp [n_nlt.mpr z1])] at z
        simp (disch := omega) only [pX12_wrong_26, pX12_wrong_89, n_lit, nI_add, nI_1, n_cl, gck_in, gck_t, gck_T, ↓gnm_e, gbd_s, ↓reduceIte, n_leT, n_leF, n_ltT, n_ltF, n_eqT, n_eqF, Nat.add_zero, Nat.zero_add, hW, z0, hgx, hdx, z1, z_or0, z]
      · rw [tb_t (by rw [hqx]; simp [n_nle.mp z1])] at z
        simp (disch := omega) only [pX12_wrong_26, pX12_wrong_89, n_lit, nI_add, nI_1, n_cl, gck_in, gck_t, gck_T, ↓gnm_e, gbd_s, ↓reduceIte, n_leT, n_leF, n_ltT, n_ltF, n_eqT, n_eqF, Nat.add_zero, Nat.zero_add, hW, z0, hgx, hdx, z1, hor, z]
theorem c_wr61 (h10 : W ≤ 10) {o1 o5 : Int32} {A8 A9 A10 A11 g0 g1 g2 g3 g5 bfr : Nat → Int32} {gs : Int32} (hg : ∀ w, w < W → g0 w = GS s w) (hd : ∀ w, w < W → bfr w = DU s w) {x1 : Int32} : ∀ k n x : Nat, x + k = W → k < n → pX11_wrong_61 F (nI W) o1 o5 A8 A9 A10 A11 h Cf n gs g0 g1 g2 g3 g5 bfr x1 (nI (tb (wq s) x)) (nI (tb (wl s) x)) (sm (al W) (GS s) x) (nI x) = some (if x1 = nI 0 then nI (tb (wq s) W) else if x1 = nI 1 then nI (tb (wl s) W) else sm (al W) (GS s) W, gs, g0, g1, g2, g3, g5, bfr) := by
  intro k
  induction k with
  | zero =>
    intro n x e hn
    obtain ⟨n, rfl⟩ : ∃ j, n = j + 1 := ⟨n - 1, by omega⟩
    have e2 : x = W := by omega
    subst e2
    by_cases z : x1 = nI 0
    · simp (disch := omega) only [pX11_wrong_61, n_lit, nI_add, nI_1, n_cl, gck_in, gck_t, gck_T, ↓gnm_e, gbd_s, ↓reduceIte, n_leT, n_leF, n_ltT, n_ltF, n_eqT, n_eqF, Nat.add_zero, Nat.zero_add, z]
    · by_cases z2 : x1 = nI 1
      · simp (disch := omega) only [pX11_wrong_61, n_lit, nI_add, nI_1, n_cl, gck_in, gck_t, gck_T, ↓gnm_e, gbd_s, ↓reduceIte, n_leT, n_leF, n_ltT, n_ltF, n_eqT, n_eqF, Nat.add_zero, Nat.zero_add, z2]
      · simp (disch := omega) only [pX11_wrong_61, n_lit, nI_add, nI_1, n_cl, gck_in, gck_t, gck_T, ↓gnm_e, gbd_s, ↓reduceIte, n_leT, n_leF, n_ltT, n_ltF, n_eqT, n_eqF, Nat.add_zero, Nat.zero_add, z, z2]
  | succ k ih =>
    intro n x e hn
    obtain ⟨n, rfl⟩ : ∃ j, n = j + 1 := ⟨n - 1, by omega⟩
    have hxW : x < W := by omega
    have z := ih n (x + 1) (by omega) (by omega)
    rw [sm_t (al_t.mpr hxW)] at z
    have hgx := hg x hxW
    have hdx := hd x hxW
    have hor1 := tb_or x (show x < 10 by omega) _ (tb_lt (wq s) x)
    have hor2 := tb_or x (show x < 10 by omega) _ (tb_lt (wl s) x)
    rw [pX11_wrong_61]
    by_cases z1 : GS s x = DU s x
    · have z2 : DU s x ≤ GS s x := by rw [z1]; exact n_leI.mpr (Int.le_refl _)
      rw [tb_f (by simp [wq, z1]), tb_f (by simp [wl, n_nlt.mpr z2])] at z
      simp (disch := omega) only [pX11_wrong_111, n_lit, nI_add, nI_1, n_cl, gck_in, gck_t, gck_T, ↓gnm_e, gbd_s, ↓reduceIte, n_leT, n_leF, n_ltT, n_ltF, n_eqT, n_eqF, Nat.add_zero, Nat.zero_add, hgx, hdx, z1, z2, z]
      rw [z1] at z2 z
      simp (disch := omega) only [n_lit, nI_add, nI_1, n_cl, gck_in, gck_t, gck_T, ↓gnm_e, gbd_s, ↓reduceIte, n_leT, n_leF, n_ltT, n_ltF, n_eqT, n_eqF, Nat.add_zero, Nat.zero_add, z2, z]
    · by_cases z2 : DU s x ≤ GS s x
      · rw [tb_t (by simp [wq, z1]), tb_f (by simp [wl, n_nlt.mpr z2])] at z
        simp (disch := omega) only [pX11_wrong_111, n_lit, nI_add, nI_1, n_cl, gck_in, gck_t, gck_T, ↓gnm_e, gbd_s, ↓reduceIte, n_leT, n_leF, n_ltT, n_ltF, n_eqT, n_eqF, Nat.add_zero, Nat.zero_add, hgx, hdx, z1, z2, hor1, z]
      · rw [tb_t (by simp [wq, z1]), tb_t (by simp [wl, n_nle.mp z2])] at z
        simp (disch := omega) only [pX11_wrong_111, n_lit, nI_add, nI_1, n_cl, gck_in, gck_t, gck_T, ↓gnm_e, gbd_s, ↓reduceIte, n_leT, n_leF, n_ltT, n_ltF, n_eqT, n_eqF, Nat.add_zero, Nat.zero_add, hgx, hdx, z1, z2, hor1, hor2, z]
theorem m_wrong (hS : SV s W C y Hn R T) (hR : WR F o A Cf h s) (hP : PLF F) (gs : Int32) (g0 g1 g2 g3 g5 bfr a10 a11 a12 a13 a14 a15 : Nat → Int32) (x1 : Int32) : ∃ v fs f0 f1 f2 f3 f5 b1' b10 b11 b12 b13 b14 b15, pX11_wrong F (o 0) (o 1) (o 5) (A 8) (A 9) (A 10) (A 11) h Cf gs g0 g1 g2 g3 g5 bfr x1 = some (v, fs, f0, f1, f2, f3, f5, b1') ∧ pX12_wrong s a10 a11 a12 a13 a14 a15 x1 = some (v, b10, b11, b12, b13, b14, b15) := by
  have hI := hS.1
  obtain ⟨hW, h10, hC, h4, hy, hy2, hV, hK⟩ := id hI
  obtain ⟨e0, e1, -, -, -, e5⟩ := wr_o hS hR
  rw [e0, e1, e5]
  have hA := wr_wa hS hR
  have hH := wr_hr hR
  have hcf := wr_cfs hS hR
  unfold pX11_wrong pX12_wrong
  rcases x_in x1 (n := 2) (by decide) with ⟨j, hj, rfl⟩ | hx
  · have hin : pX12_in (nI j) 0 2 = some (nI 1) := in_nT (a := 0) (n := 2) (by omega) hj (by decide)
    obtain ⟨fs, f0, f1, f2, f3, k1, k2⟩ := c_dues hI hH hP (fun w hw => (hA w hw).1) gs g0 g1 g2 g3
    obtain ⟨ds, d0, d1, d2, d3, d5, k3, k4⟩ := c_gall hI hH hcf hA fs f0 f1 f2 f3 g5
    obtain ⟨b12, b14, b15, k5, k6⟩ := r_dues hI hH a12 a14 a15
    obtain ⟨c10, c11, c12, c13, c15, k7, k8⟩ := r_gall hI hH (cfs_chs hcf) a10 a11 b12 a13 b15
    have hbf : ∀ w, w < W → va_cpy f0 bfr 0 0 10 w = DU s w := fun w hw => by
      rw [pk_cpy_in (by omega) (by omega)]
      simp only [Nat.zero_add, Nat.sub_zero]; exact k2 w hw
    have r1 := c_wr61 (F := F) (h := h) (Cf := Cf) (o1 := nI C) (o5 := nI y) (A8 := A 8) (A9 := A 9) (A10 := A 10) (A11 := A 11) (g1 := d1) (g2 := d2) (g3 := d3) (g5 := d5) (gs := ds) h10 k4 hbf (x1 := nI j) W 1000 0 (by omega) (by omega)
    have r2 := r_wr26 (a10 := c10) (a11 := c11) (a12 := c12) (a15 := c15) (q := fun w => if nI j = nI 0 then wq s w else wl s w) hI k8 k6 (x1 := nI j) (fun w _ => rfl) W 1000 0 (by omega) (by omega)
    refine ⟨if nI j = nI 0 then nI (tb (wq s) W) else if nI j = nI 1 then nI (tb (wl s) W) else sm (al W) (GS s) W, ds, d0, d1, d2, d3, d5, va_cpy f0 bfr 0 0 10, c10, c11, c12, c13, b14, c15, ?_, ?_⟩
    · rw [if_neg (by rw [n_lit, n_ltF (by omega) (by omega)]; exact fun z => z), if_pos (by rw [n_lit, n_leT (by omega) (by omega)]; trivial), k1, gbd_s, gnm_e, k3, gbd_s]
      exact r1
    · rw [hin, gbd_s, ib1, k5, gbd_s, k7, gbd_s]
      refine Eq.trans r2 ?_
      rcases (show j = 0 ∨ j = 1 ∨ j = 2 by omega) with e | e | e <;> subst e
      · simp (disch := omega) only [n_lit, nI_add, nI_1, n_cl, gck_in, gck_t, gck_T, ↓gnm_e, gbd_s, ↓reduceIte, n_leT, n_leF, n_ltT, n_ltF, n_eqT, n_eqF, Nat.add_zero, Nat.zero_add]
      · simp (disch := omega) only [n_lit, nI_add, nI_1, n_cl, gck_in, gck_t, gck_T, ↓gnm_e, gbd_s, ↓reduceIte, n_leT, n_leF, n_ltT, n_ltF, n_eqT, n_eqF, Nat.add_zero, Nat.zero_add]
      · simp (disch := omega) only [n_lit, nI_add, nI_1, n_cl, gck_in, gck_t, gck_T, ↓gnm_e, gbd_s, ↓reduceIte, n_leT, n_leF, n_ltT, n_ltF, n_eqT, n_eqF, Nat.add_zero, Nat.zero_add]
  · have hin : pX12_in x1 0 2 = some (nI 0) := in_f hx
    refine ⟨-nI 1, gs, g0, g1, g2, g3, g5, bfr, a10, a11, a12, a13, a14, a15, ?_, by rw [hin, gbd_s, ib0]; rfl⟩
    rcases hx with hx | hx
    · rw [if_pos (show x1 < 0 from hx)]; rfl
    · by_cases z : x1 < 0
      · rw [if_pos z]; rfl
      · rw [if_neg z, if_neg (show ¬ x1 ≤ 2 from n_nle.mpr hx)]; rfl
/-! the trace -/
def ar (b : Nat) (ta a17 : Nat → Int32) : Prop := ∀ i, i < b → ta i = a17 i
def TR (tb0 : Int32) (ta : Nat → Int32) (o18 : Int32) (a17 : Nat → Int32) : Prop := ∃ b : Nat, b ≤ 20 ∧ tb0 = nI b ∧ o18 = nI b ∧ ar b ta a17
theorem m_trace {tb0 o18 : Int32} {ta a17 : Nat → Int32} (hT : TR tb0 ta o18 a17) (x : Int32) : ∃ v, pX11_trace tb0 ta x = some v ∧ pX12_trace a17 o18 x = some v := by
  obtain ⟨b, hb, rfl, rfl, ht⟩ := hT
  unfold pX11_trace pX12_trace
  rcases x_lt x (n := b) (by omega) with ⟨i, hi, rfl⟩ | hx
  · refine ⟨a17 i, by simp (disch := omega) only [n_lit, nI_add, nI_1, n_cl, gck_in, gck_t, gck_T, ↓gnm_e, gbd_s, ↓reduceIte, n_leT, n_leF, n_ltT, n_ltF, n_eqT, n_eqF, Nat.add_zero, Nat.zero_add, ht i hi], ?_⟩
    by_cases z : 20 ≤ b
    · have hin : pX12_in (nI i) (nI 0) (nI 19) = some (nI 1) := in_nT (a := 0) (by omega) (by omega) (by decide)
      simp (disch := omega) only [pX12_trace_20, n_lit, nI_add, nI_1, n_cl, gck_in, gck_t, gck_T, ↓gnm_e, gbd_s, ↓reduceIte, n_leT, n_leF, n_ltT, n_ltF, n_eqT, n_eqF, Nat.add_zero, Nat.zero_add, n_sub, hin]
    · have hin : pX12_in (nI i) (nI 0) (nI (b - 1)) = some (nI 1) := in_nT (a := 0) (by omega) (by omega) (by omega)
      simp (disch := omega) only [pX12_trace_20, n_lit, nI_add, nI_1, n_cl, gck_in, gck_t, gck_T, ↓gnm_e, gbd_s, ↓reduceIte, n_leT, n_leF, n_ltT, n_ltF, n_eqT, n_eqF, Nat.add_zero, Nat.zero_add, n_sub, hin]
  · refine ⟨-nI 1, ?_, ?_⟩
    · rcases hx with z | z
      · rw [if_pos (show x < 0 from z)]; rfl
      · by_cases z0 : x < 0
        · rw [if_pos z0]; rfl
        · rw [if_neg z0, if_pos z]; rfl
    · by_cases z : 20 ≤ b
      · have e : b = 20 := by omega
        subst e
        have hin : pX12_in x (nI 0) (nI 20 - nI 1) = some (nI 0) := in_f (sub1_lt (by omega) hx)
        simp (disch := omega) only [pX12_trace_20, n_lit, nI_add, nI_1, n_cl, gck_in, gck_t, gck_T, ↓gnm_e, gbd_s, ↓reduceIte, n_leT, n_leF, n_ltT, n_ltF, n_eqT, n_eqF, Nat.add_zero, Nat.zero_add, hin]
      · have hin : pX12_in x (nI 0) (nI b - nI 1) = some (nI 0) := in_f (sub1_lt (by omega) hx)
        simp (disch := omega) only [pX12_trace_20, n_lit, nI_add, nI_1, n_cl, gck_in, gck_t, gck_T, ↓gnm_e, gbd_s, ↓reduceIte, n_leT, n_leF, n_ltT, n_ltF, n_eqT, n_eqF, Nat.add_zero, Nat.zero_add, hin]
theorem ar_0 {ta a17 : Nat → Int32} : ar 0 ta a17 := fun i hi => absurd hi (Nat.not_lt_zero _)
theorem ar_s {b : Nat} {v : Int32} {ta a17 : Nat → Int32} (h : ar b ta a17) : ar (b + 1) (upd ta b v) (upd a17 b v) := fun i hi => by
  by_cases e : i = b
  · subst e; rw [pk_us, pk_us]
  · rw [pk_un e, pk_un e]; exact h i (by omega)
theorem bg_c {b : Nat} {ta : Nat → Int32} {v : Int32} (hb : b < 20) : pX8_begin (nI b) ta v = some (nI (b + 1), upd ta b v) := by
  unfold pX8_begin
  simp (disch := omega) only [n_lit, nI_add, nI_1, n_cl, gck_in, gck_t, gck_T, ↓gnm_e, gbd_s, ↓reduceIte, n_leT, n_leF, n_ltT, n_ltF, n_eqT, n_eqF, Nat.add_zero, Nat.zero_add]
theorem bg_r {b : Nat} {a17 : Nat → Int32} {v : Int32} (hb : b < 20) : pX12_ranBody a17 (nI b) v = some (upd a17 b v, nI (b + 1)) := by
  unfold pX12_ranBody
  simp (disch := omega) only [n_lit, nI_add, nI_1, n_cl, gck_in, gck_t, gck_T, ↓gnm_e, gbd_s, ↓reduceIte, n_leT, n_leF, n_ltT, n_ltF, n_eqT, n_eqF, Nat.add_zero, Nat.zero_add]
theorem ru_t (k j : Nat) (h : j = 0 ∨ j = k ∨ (j < 4 ∧ k = j + 3)) (hk : k ≤ 6) (hj : j ≤ 6) : pX12_isUnder (nI k) (nI j) = some (nI 1) := by
  unfold pX12_isUnder
  by_cases z0 : j = 0
  · subst z0; simp (disch := omega) only [n_lit, nI_add, nI_1, n_cl, gck_in, gck_t, gck_T, ↓gnm_e, gbd_s, ↓reduceIte, n_leT, n_leF, n_ltT, n_ltF, n_eqT, n_eqF, Nat.add_zero, Nat.zero_add]
  · by_cases z1 : j = k
    · subst z1; simp (disch := omega) only [n_lit, nI_add, nI_1, n_cl, gck_in, gck_t, gck_T, ↓gnm_e, gbd_s, ↓reduceIte, n_leT, n_leF, n_ltT, n_ltF, n_eqT, n_eqF, Nat.add_zero, Nat.zero_add]
    · have z2 : k = j + 3 := by omega
      subst z2
      simp (disch := omega) only [n_lit, nI_add, nI_1, n_cl, gck_in, gck_t, gck_T, ↓gnm_e, gbd_s, ↓reduceIte, n_leT, n_leF, n_ltT, n_ltF, n_eqT, n_eqF, Nat.add_zero, Nat.zero_add, Int32.add_comm (nI j) (nI 3)]
theorem ru_f (k j : Nat) (h : ¬ (j = 0 ∨ j = k ∨ (j < 4 ∧ k = j + 3))) (hk : k ≤ 6) (hj : j ≤ 6) : pX12_isUnder (nI k) (nI j) = some (nI 0) := by
  unfold pX12_isUnder
  by_cases z : 4 ≤ j
  · simp (disch := omega) only [n_lit, nI_add, nI_1, n_cl, gck_in, gck_t, gck_T, ↓gnm_e, gbd_s, ↓reduceIte, n_leT, n_leF, n_ltT, n_ltF, n_eqT, n_eqF, Nat.add_zero, Nat.zero_add]
  · simp (disch := omega) only [n_lit, nI_add, nI_1, n_cl, gck_in, gck_t, gck_T, ↓gnm_e, gbd_s, ↓reduceIte, n_leT, n_leF, n_ltT, n_ltF, n_eqT, n_eqF, Nat.add_zero, Nat.zero_add]
end METH
