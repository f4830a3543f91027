/-! PURE SIDE: what holds between calls -/
theorem gu_s {α : Type} {f : Nat → α} {k : Nat} {v : α} : gu f k v k = v := by unfold gu; rw [Nat.beq_refl]; rfl
theorem gu_n {α : Type} {f : Nat → α} {k j : Nat} {v : α} (h : j ≠ k) : gu f k v j = f j := by
  unfold gu
  rw [show Nat.beq j k = false from by
    cases e : Nat.beq j k with
    | false => rfl
    | true => exact absurd (Nat.eq_of_beq_eq_true e) h]
  rfl
def RV (s : Nat → Int32) (W C r : Nat) : Prop := ∃ w c g : Nat, w < W ∧ c < C ∧ 1 ≤ g ∧ g ≤ 5 ∧ s (72 + r) = nI w ∧ s (92 + r) = nI c ∧ s (112 + r) = nI g
def SV (s : Nat → Int32) (W C y Hn R T : Nat) : Prop := IV s W C y ∧ y ≤ 99 ∧ s 53 = nI Hn ∧ Hn ≤ 5 ∧ s 54 = nI R ∧ R ≤ 20 ∧ s 55 = nI T ∧ T ≤ 100 ∧ (∃ a, a ≤ 99 ∧ s 57 = nI a) ∧ (∃ a, a ≤ 99 ∧ s 58 = nI a) ∧ (∀ r, r < R → RV s W C r) ∧ (∀ j, j < 100 → ∃ t, t ≤ 127 ∧ s (132 + j) = nI t) ∧ s 56 = (if Hn = 0 then -nI 1 else nI (Hn - 1))
def WW (s : Nat → Int32) (A : Nat → Nat → Int32) : Prop := ∀ w, w < 10 → A 8 w = s (1 + w) ∧ A 9 w = s (11 + w) ∧ A 10 w = s (31 + w) ∧ A 11 w = s (41 + w) ∧ A 12 w = s (21 + w)
def WB (s : Nat → Int32) (A : Nat → Nat → Int32) : Prop := ∀ r, r < 20 → A 14 r = s (72 + r) ∧ A 15 r = s (92 + r) ∧ A 16 r = s (112 + r)
def WO (s : Nat → Int32) (o : Nat → Int32) : Prop := o 0 = s 51 ∧ o 1 = s 52 ∧ o 2 = s 53 ∧ o 3 = s 54 ∧ o 4 = s 55 ∧ o 5 = s 0 ∧ o 6 = s 57 ∧ o 7 = s 58
/-- a world of the component shows the row s -/
def WR (F : gF) (o : Nat → Int32) (A : Nat → Nat → Int32) (Cf : Nat → Option Nat) (h : Nat) (s : Nat → Int32) : Prop := WO s o ∧ WW s A ∧ WB s A ∧ (∀ j, j < 100 → A 17 j = s (132 + j)) ∧ (∀ c, c < nn (s 52) → ∃ b, Cf c = some b ∧ CH F b s c) ∧ (∀ c, c < 4 → gqok F (Cf c) = true) ∧ HR F h s
def SW (F : gF) (o : Nat → Int32) (A : Nat → Nat → Int32) (Cf : Nat → Option Nat) (h : Nat) (s : Nat → Int32) : Prop := (∃ W C y Hn R T, SV s W C y Hn R T) ∧ WR F o A Cf h s
theorem tells_ag {s t : Nat → Int32} (h56 : t 56 = s 56) (hg : ∀ k, 232 ≤ k → t k = s k) (hv : s 56 = -nI 1 ∨ ∃ H, H < 5 ∧ s 56 = nI H) (k : Nat) (hk : 232 ≤ k) (hk2 : k < 900) (d : Int32) : pX12_tellsOf t (nI k) d = pX12_tellsOf s (nI k) d := by
  unfold pX12_tellsOf
  rcases hv with e | ⟨H, hH, e⟩
  · simp (disch := omega) only [n_lit, nI_add, nI_1, n_cl, gck_in, gck_t, gck_T, ↓gnm_e, gbd_s, ↓reduceIte, n_leT, n_leF, n_ltT, n_ltF, n_eqT, n_eqF, Nat.add_zero, Nat.zero_add, h56, e]
  · simp (disch := omega) only [n_lit, nI_add, nI_1, n_cl, gck_in, gck_t, gck_T, ↓gnm_e, gbd_s, ↓reduceIte, n_leT, n_leF, n_ltT, n_ltF, n_eqT, n_eqF, Nat.add_zero, Nat.zero_add, h56, e, z_peq, hg]
theorem hr_ag {F : gF} {h : Nat} {s t : Nat → Int32} (h56 : t 56 = s 56) (hg : ∀ k, 232 ≤ k → t k = s k) (hv : s 56 = -nI 1 ∨ ∃ H, H < 5 ∧ s 56 = nI H) (hH : HR F h s) : HR F h t := by
  have e0 : pX12_told t 0 = pX12_told s 0 := by
    unfold pX12_told; rw [if_pos rfl, if_pos rfl, n_lit, tells_ag h56 hg hv 232 (by decide) (by decide)]
  have e1 : pX12_told t 1 = pX12_told s 1 := by
    unfold pX12_told; rw [if_neg (by decide), if_pos rfl, if_neg (by decide), if_pos rfl, n_lit, tells_ag h56 hg hv 237 (by decide) (by decide)]
  have e2 : pX12_told t 2 = pX12_told s 2 := by
    unfold pX12_told; rw [if_neg (by decide), if_neg (by decide), if_pos rfl, if_neg (by decide), if_neg (by decide), if_pos rfl, n_lit, tells_ag h56 hg hv 242 (by decide) (by decide)]
  have e3 : pX12_tellsOf t 247 0 = pX12_tellsOf s 247 0 := tells_ag h56 hg hv 247 (by decide) (by decide) 0
  obtain ⟨q0, q1, q2, q3, fr, N, q4, q5, q6⟩ := hH
  refine ⟨q0, by rw [e0]; exact q1, by rw [e1]; exact q2, by rw [e2]; exact q3, fr, N, by rw [e3]; exact q4, by rw [h56]; exact q5, ?_⟩
  obtain ⟨p1, p2, p3, p4, p5, D, p6, p7, p8⟩ := q6
  refine ⟨p1, p2, p3, p4, p5, D, p6, p7, fun i hi => ?_⟩
  rw [hg (fr + i) (by omega)]
  exact p8 i hi
theorem sv_56 {s : Nat → Int32} {W C y Hn R T : Nat} (hS : SV s W C y Hn R T) : s 56 = -nI 1 ∨ ∃ H, H < 5 ∧ s 56 = nI H := by
  obtain ⟨-, -, -, h5, -, -, -, -, -, -, -, -, h⟩ := hS
  rw [h]
  by_cases e : Hn = 0
  · rw [if_pos e]; exact Or.inl rfl
  · rw [if_neg e]; exact Or.inr ⟨Hn - 1, by omega, rfl⟩
theorem ch_ag {F : gF} {b : Nat} {s t : Nat → Int32} {c : Nat} (hc : c < 4) (hg : ∀ k, 60 ≤ k → k < 72 → t k = s k) (h : CH F b s c) : CH F b t c := by
  obtain ⟨h1, h2, h3, h4, h5⟩ := h
  exact ⟨h1, h2.trans (hg _ (by omega) (by omega)).symm, h3, h4.trans (hg _ (by omega) (by omega)).symm, h5.trans (hg _ (by omega) (by omega)).symm⟩
theorem cv_ag {s t : Nat → Int32} {c : Nat} (hc : c < 4) (hg : ∀ k, 60 ≤ k → k < 72 → t k = s k) (h : CV s c) : CV t c := by
  obtain ⟨k, v, d, q1, q2, q3, f1, f2, f3⟩ := h
  exact ⟨k, v, d, q1, q2, q3, (hg _ (by omega) (by omega)).trans f1, (hg _ (by omega) (by omega)).trans f2, (hg _ (by omega) (by omega)).trans f3⟩
/-! arguments -/
theorem in_t {x a b : Int32} (h1 : ¬ x < a) (h2 : ¬ b < x) : pX12_in x a b = some (nI 1) := by unfold pX12_in; rw [if_neg h1, if_neg h2]; rfl
theorem in_f {x a b : Int32} (h : x < a ∨ b < x) : pX12_in x a b = some (nI 0) := by
  unfold pX12_in
  by_cases h1 : x < a
  · rw [if_pos h1]; rfl
  · rw [if_neg h1, if_pos (h.resolve_left h1)]; rfl
theorem wi_t {x b : Int32} (h1 : ¬ x < nI 0) (h2 : ¬ b < x) : pX11_isWithin x b = some (nI 1) := by unfold pX11_isWithin; rw [n_lit, if_neg h1, if_neg h2]; rfl
theorem wi_f {x b : Int32} (h : x < nI 0 ∨ b < x) : pX11_isWithin x b = some (nI 0) := by
  unfold pX11_isWithin
  rw [n_lit]
  by_cases h1 : x < nI 0
  · rw [if_pos h1]
  · rw [if_neg h1, if_pos (h.resolve_left h1)]
/-- an int is in 0 .. n, or isn't -/
theorem x_in (x : Int32) {n : Nat} (hn : n < 2147483648) : (∃ j, j ≤ n ∧ x = nI j) ∨ (x < nI 0 ∨ nI n < x) := by
  by_cases h0 : x < nI 0
  · exact Or.inr (Or.inl h0)
  · by_cases h1 : nI n < x
    · exact Or.inr (Or.inr h1)
    · left
      obtain ⟨j, j1, j2⟩ := nI_of (x := x) h0
      subst j2
      rw [n_lt hn (by omega)] at h1
      exact ⟨j, by omega, rfl⟩
theorem in_nT {j a n : Nat} (h0 : a ≤ j) (h : j ≤ n) (hn : n < 2147483648) : pX12_in (nI j) (nI a) (nI n) = some (nI 1) := in_t (by rw [n_lt (by omega) (by omega)]; omega) (by rw [n_lt (by omega) (by omega)]; omega)
theorem wi_nT {j n : Nat} (h : j ≤ n) (hn : n < 2147483648) : pX11_isWithin (nI j) (nI n) = some (nI 1) := wi_t (by rw [n_lt (by omega) (by omega)]; omega) (by rw [n_lt (by omega) (by omega)]; omega)
/-- a number below n, or none such -/
theorem x_lt (x : Int32) {n : Nat} (hn : n < 2147483648) : (∃ j, j < n ∧ x = nI j) ∨ (x < nI 0 ∨ nI n ≤ x) := by
  rcases pk_ix x (n := n) (by omega) with h | h | h
  · exact Or.inr (Or.inl h)
  · exact Or.inr (Or.inr h)
  · exact Or.inl h
section ARG
variable {s : Nat → Int32} {W C : Nat}
theorem sub1_lt {n : Nat} {x : Int32} (hn : n < 1000) (h : x < nI 0 ∨ nI n ≤ x) : x < nI 0 ∨ nI n - nI 1 < x := by
  rcases h with h | h
  · exact Or.inl h
  · right
    rw [n_ltI, pk_sub_toInt (by omega) (by omega)]
    rw [n_leI, n_ti (by omega)] at h
    omega
theorem isc_t (hC : s 52 = nI C) (h4 : C ≤ 4) {c : Nat} (hc : c < C) : pX12_isChief s (nI c) = some (nI 1) := by
  unfold pX12_isChief
  have e : pX12_in (nI c) (nI 0) (nI C - nI 1) = some (nI 1) := by rw [n_sub (by omega)]; exact in_nT (by omega) (by omega) (by omega)
  simp (disch := omega) only [n_lit, nI_add, nI_1, n_cl, gck_in, gck_t, gck_T, ↓gnm_e, gbd_s, ↓reduceIte, n_leT, n_leF, n_ltT, n_ltF, n_eqT, n_eqF, Nat.add_zero, Nat.zero_add, hC, e]
  rfl
theorem isc_f (hC : s 52 = nI C) (h4 : C ≤ 4) {x : Int32} (hx : x < nI 0 ∨ nI C ≤ x) : pX12_isChief s x = some (nI 0) := by
  unfold pX12_isChief
  have e : pX12_in x (nI 0) (nI C - nI 1) = some (nI 0) := in_f (sub1_lt (by omega) hx)
  simp (disch := omega) only [n_lit, nI_add, nI_1, n_cl, gck_in, gck_t, gck_T, ↓gnm_e, gbd_s, ↓reduceIte, n_leT, n_leF, n_ltT, n_ltF, n_eqT, n_eqF, Nat.add_zero, Nat.zero_add, hC, e]
  rfl
theorem isw_t (hW : s 51 = nI W) (h10 : W ≤ 10) {c : Nat} (hc : c < W) : pX12_isWorker s (nI c) = some (nI 1) := by
  unfold pX12_isWorker
  have e : pX12_in (nI c) (nI 0) (nI W - nI 1) = some (nI 1) := by rw [n_sub (by omega)]; exact in_nT (by omega) (by omega) (by omega)
  simp (disch := omega) only [n_lit, nI_add, nI_1, n_cl, gck_in, gck_t, gck_T, ↓gnm_e, gbd_s, ↓reduceIte, n_leT, n_leF, n_ltT, n_ltF, n_eqT, n_eqF, Nat.add_zero, Nat.zero_add, hW, e]
  rfl
theorem isw_f (hW : s 51 = nI W) (h10 : W ≤ 10) {x : Int32} (hx : x < nI 0 ∨ nI W ≤ x) : pX12_isWorker s x = some (nI 0) := by
  unfold pX12_isWorker
  have e : pX12_in x (nI 0) (nI W - nI 1) = some (nI 0) := in_f (sub1_lt (by omega) hx)
  simp (disch := omega) only [n_lit, nI_add, nI_1, n_cl, gck_in, gck_t, gck_T, ↓gnm_e, gbd_s, ↓reduceIte, n_leT, n_leF, n_ltT, n_ltF, n_eqT, n_eqF, Nat.add_zero, Nat.zero_add, hW, e]
  rfl
theorem has_f {x : Int32} (hx : x < nI 0 ∨ nI W ≤ x) : pX10_hasWorker_w0 (nI W) x = some (nI 0) := by
  unfold pX10_hasWorker_w0
  rw [n_lit]
  by_cases h1 : x < nI 0
  · rw [if_pos h1]
  · rw [if_neg h1, if_pos (hx.resolve_left h1)]
theorem cat_f {x : Int32} {Cf : Nat → Option Nat} (hx : x < nI 0 ∨ nI C ≤ x) : pX10_chiefAt_w0 (nI C) Cf x = some none := by
  unfold pX10_chiefAt_w0
  rw [n_lit]
  by_cases h1 : x < nI 0
  · rw [if_pos h1]
  · rw [if_neg h1, if_pos (hx.resolve_left h1)]
end ARG
/-! what SW gives -/
section SWG
variable {F : gF} {o : Nat → Int32} {A : Nat → Nat → Int32} {Cf : Nat → Option Nat} {h : Nat} {s : Nat → Int32} {W C y Hn R T : Nat}
theorem sv_nC (hS : SV s W C y Hn R T) : nn (s 52) = C := by unfold nn; rw [hS.1.2.2.1, n_cl (by have := hS.1.2.2.2.1; omega)]
theorem wr_cfs (hS : SV s W C y Hn R T) (hR : WR F o A Cf h s) : CFS F s C Cf := fun c hc => hR.2.2.2.2.1 c (by rw [sv_nC hS]; exact hc)
theorem wr_wa (hS : SV s W C y Hn R T) (hR : WR F o A Cf h s) : WA s W (A 8) (A 9) (A 10) (A 11) := fun w hw => by
  obtain ⟨h1, h2, h3, h4, -⟩ := hR.2.1 w (by have := hS.1.2.1; omega)
  exact ⟨h1, h2, h3, h4⟩
theorem wr_hr (hR : WR F o A Cf h s) : HR F h s := hR.2.2.2.2.2.2
theorem wr_o (hS : SV s W C y Hn R T) (hR : WR F o A Cf h s) : o 0 = nI W ∧ o 1 = nI C ∧ o 2 = nI Hn ∧ o 3 = nI R ∧ o 4 = nI T ∧ o 5 = nI y := by
  obtain ⟨e0, e1, e2, e3, e4, e5, -, -⟩ := hR.1
  exact ⟨e0.trans hS.1.1, e1.trans hS.1.2.2.1, e2.trans hS.2.2.1, e3.trans hS.2.2.2.2.1, e4.trans hS.2.2.2.2.2.2.1, e5.trans hS.1.2.2.2.2.1⟩
end SWG
