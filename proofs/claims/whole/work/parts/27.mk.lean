/-! PURE SIDE: what holds of a row of the reference, and when a chief, a house show it -/
def CH (F : gF) (b : Nat) (s : Nat → Int32) (c : Nat) : Prop := chv F b = true ∧ ck F b = s (60 + c) ∧ cn F b = nI c ∧ cv F b = s (64 + c) ∧ cd F b = s (68 + c)
def HR (F : gF) (h : Nat) (s : Nat → Int32) : Prop := hsv F h = true ∧ (∃ fv, fv ≤ 99 ∧ pX12_told s 0 = some (nI fv) ∧ hI F h 0 = nI fv) ∧ (∃ on, on ≤ 99 ∧ pX12_told s 1 = some (nI on) ∧ hI F h 1 = nI on) ∧ (∃ py, py ≤ 99 ∧ pX12_told s 2 = some (nI py) ∧ hI F h 2 = nI py) ∧ ∃ fr N, pX12_tellsOf s 247 0 = some (nI N) ∧ nI 252 + nI 140 * s 56 = nI fr ∧ HS F h s fr N
def WV (s : Nat → Int32) (C w : Nat) : Prop := ∃ a b d e c : Nat, a ≤ 99 ∧ b ≤ 99 ∧ d ≤ 9 ∧ e ≤ 9999 ∧ c < C ∧ s (1 + w) = nI a ∧ s (11 + w) = nI b ∧ s (41 + w) = nI d ∧ s (21 + w) = nI e ∧ s (31 + w) = nI c
def CV (s : Nat → Int32) (c : Nat) : Prop := ∃ k v d : Nat, k ≤ 6 ∧ v ≤ 9 ∧ d ≤ 9 ∧ s (60 + c) = nI k ∧ s (64 + c) = nI v ∧ s (68 + c) = nI d
def IV (s : Nat → Int32) (W C y : Nat) : Prop := s 51 = nI W ∧ W ≤ 10 ∧ s 52 = nI C ∧ C ≤ 4 ∧ s 0 = nI y ∧ y ≤ 120 ∧ (∀ w, w < W → WV s C w) ∧ (∀ c, c < C → CV s c)
section MK
variable {s : Nat → Int32} {W C y : Nat}
theorem r_team4 (hW : s 51 = nI W) (h10 : W ≤ 10) {c : Int32} : ∀ k n x : Nat, x + k = W → k < n → pX12_teamOf_4 s n c (nI (kn (pT s W c) x)) (nI x) = some (nI (kn (pT s W c) W)) := by
  intro k
  induction k with
  | zero =>
    intro n x e hn
    obtain ⟨n, rfl⟩ : ∃ j, n = j + 1 := ⟨n - 1, by omega⟩
    have e2 : x = W := by omega
    subst e2
    simp (disch := omega) only [pX12_teamOf_4, n_lit, nI_add, nI_1, n_cl, gck_in, gck_t, gck_T, ↓gnm_e, gbd_s, ↓reduceIte, n_leT, n_leF, n_ltT, n_ltF, n_eqT, n_eqF, Nat.add_zero, Nat.zero_add, hW]
  | succ k ih =>
    intro n x e hn
    obtain ⟨n, rfl⟩ : ∃ j, n = j + 1 := ⟨n - 1, by omega⟩
    have z := ih n (x + 1) (by omega) (by omega)
    by_cases q : s (31 + x) = c
    · rw [kn_t (pT_iff.mpr ⟨by omega, q⟩)] at z
      simp (disch := omega) only [pX12_teamOf_4, n_lit, nI_add, nI_1, n_cl, gck_in, gck_t, gck_T, ↓gnm_e, gbd_s, ↓reduceIte, n_leT, n_leF, n_ltT, n_ltF, n_eqT, n_eqF, Nat.add_zero, Nat.zero_add, hW, q, z]
    · rw [kn_f (fun y => q (pT_iff.mp y).2)] at z
      simp (disch := omega) only [pX12_teamOf_4, n_lit, nI_add, nI_1, n_cl, gck_in, gck_t, gck_T, ↓gnm_e, gbd_s, ↓reduceIte, n_leT, n_leF, n_ltT, n_ltF, n_eqT, n_eqF, Nat.add_zero, Nat.zero_add, hW, q, z]
theorem r_teamOf (hW : s 51 = nI W) (h10 : W ≤ 10) {c : Int32} : pX12_teamOf s c = some (nI (kn (pT s W c) W)) := by
  unfold pX12_teamOf
  exact r_team4 hW h10 W 1000 0 (by omega) (by omega)
def fc6 (a b c d e g : Int32) (k : Nat) : Int32 := if k = 5 then g else if k = 4 then e else if k = 3 then d else if k = 2 then c else if k = 1 then b else a
theorem fct_of {by6 f : Nat → Int32} (g : Nat → Nat) (hg : ∀ w, w < 6 → g w < 1000) (h1 : ∀ w, w < 6 → by6 w = nI (g w)) (h2 : ∀ w, w < 6 → f w = nI (g w)) : fct by6 f := fun w hw => ⟨g w, hg w hw, h1 w hw, h2 w hw⟩
/-- the six facts -/
def fcs (s : Nat → Int32) (W w c : Nat) (g : Nat → Nat) : Prop := (g 0 = w ∧ g 1 = c ∧ s (60 + c) = nI (g 2) ∧ s (1 + w) / nI 10 = nI (g 3) ∧ s 0 - s 0 / nI 10 * nI 10 = nI (g 4) ∧ g 5 = kn (pT s W (nI c)) W) ∧ ∀ k, k < 6 → g k < 1000
theorem fcs_of (hI : IV s W C y) {w c : Nat} (hw : w < W) (hc : c < C) : ∃ g, fcs s W w c g := by
  obtain ⟨hW, h10, hC, h4, hy, hy2, hV, hK⟩ := hI
  obtain ⟨a, b, d, e, c', z1, z2, z3, z4, z5, e1, e2, e3, e4, e5⟩ := hV w hw
  obtain ⟨k, v, d', q1, q2, q3, f1, f2, f3⟩ := hK c hc
  have hn := kn_le (pT s W (nI c)) W
  refine ⟨fun j => if j = 5 then kn (pT s W (nI c)) W else if j = 4 then y % 10 else if j = 3 then a / 10 else if j = 2 then k else if j = 1 then c else w, ⟨rfl, rfl, f1, ?_, ?_, rfl⟩, fun j hj => ?_⟩
  · rw [e1, pk_div (by omega) (by decide) (by decide)]; rfl
  · rw [hy, pk_rem (by omega) (by decide) (by decide)]; rfl
  · simp only
    split
    · omega
    · split
      · omega
      · split
        · omega
        · split
          · omega
          · split <;> omega
theorem six {P : Nat → Prop} (h0 : P 0) (h1 : P 1) (h2 : P 2) (h3 : P 3) (h4 : P 4) (h5 : P 5) : ∀ w, w < 6 → P w := by
  intro w hw
  rcases (show w = 0 ∨ w = 1 ∨ w = 2 ∨ w = 3 ∨ w = 4 ∨ w = 5 by omega) with e | e | e | e | e | e <;> subst e <;> assumption
def agr (g : Nat → Nat) (by6 : Nat → Int32) : Prop := ∀ k, k < 6 → by6 k = nI (g k)
/-- the reference asks a house -/
theorem r_moreOf (hI : IV s W C y) {w c : Nat} (hw : w < W) (hc : c < C) {g : Nat → Nat} (hg : fcs s W w c g) {N fr : Nat} (hN : pX12_tellsOf s 247 0 = some (nI N)) (hfr : nI 252 + nI 140 * s 56 = nI fr) (a10 a11 : Nat → Int32) : ∃ b10, agr g b10 ∧ pX12_moreOf s a10 a11 (nI w) (nI c) = pX12_moreOf_108 s 1000 b10 a11 (nI 0) (nI N) (nI fr) (nI 0) (nI fr) := by
  obtain ⟨hW, h10, hC, h4, hy, hy2, hV, hK⟩ := hI
  obtain ⟨⟨g0, g1, g2, g3, g4, g5⟩, -⟩ := hg
  have ht := r_teamOf hW h10 (c := nI c)
  have hN2 : pX12_tellsOf s (nI 247) (nI 0) = some (nI N) := hN
  refine ⟨upd (upd (upd (upd (upd (upd a10 0 (nI w)) 1 (nI c)) 2 (s (60 + c))) 3 (s (1 + w) / nI 10)) 4 (s 0 - s 0 / nI 10 * nI 10)) 5 (nI (kn (pT s W (nI c)) W)), ?_, ?_⟩
  · refine six (P := fun k => upd (upd (upd (upd (upd (upd a10 0 (nI w)) 1 (nI c)) 2 (s (60 + c))) 3 (s (1 + w) / nI 10)) 4 (s 0 - s 0 / nI 10 * nI 10)) 5 (nI (kn (pT s W (nI c)) W)) k = nI (g k)) ?_ ?_ ?_ ?_ ?_ ?_
    · simp [upd, g0]
    · simp [upd, g1]
    · simpa [upd] using g2
    · simpa [upd] using g3
    · simpa [upd] using g4
    · simp [upd, g5]
  · unfold pX12_moreOf
    simp (disch := omega) only [n_lit, nI_add, nI_1, n_cl, gck_in, gck_t, gck_T, ↓gnm_e, gbd_s, ↓reduceIte, n_leT, n_leF, n_ltT, n_ltF, n_eqT, n_eqF, Nat.add_zero, Nat.zero_add, ht, hN2, hfr]
def df (d e : Nat) : Nat := d - e + (e - d)
theorem z_size {d e : Nat} (hd : d < 1000) (he : e < 1000) : pX12_size (nI d - nI e) = some (nI (df d e)) := by
  unfold pX12_size
  by_cases h : e ≤ d
  · rw [pk_sub h, if_pos (by rw [n_lit, n_leT (by omega) (by omega)]; trivial), show df d e = d - e from by unfold df; omega]
  · have e1 : nI d - nI e = -nI (e - d) := by
      rw [← pk_sub (show d ≤ e by omega), Int32.neg_sub]
    rw [e1, if_neg (by rw [n_lit, n_leI, n_neg (by omega), n_ti (by omega)]; omega), Int32.neg_neg, show df d e = e - d from by unfold df; omega]
theorem z_abs {d e : Nat} (hd : d < 1000) (he : e < 1000) : (if nI 0 ≤ nI d - nI e then nI d - nI e else nI 0 - (nI d - nI e)) = nI (df d e) := by
  by_cases h : e ≤ d
  · rw [pk_sub h, if_pos (by rw [n_leT (by omega) (by omega)]; trivial), show df d e = d - e from by unfold df; omega]
  · have e1 : nI d - nI e = -nI (e - d) := by
      rw [← pk_sub (show d ≤ e by omega), Int32.neg_sub]
    rw [e1, if_neg (by rw [n_leI, n_neg (by omega), n_ti (by omega)]; omega), show nI 0 - -nI (e - d) = nI (e - d) from by rw [Int32.sub_eq_add_neg, Int32.neg_neg]; exact Int32.zero_add _, show df d e = e - d from by unfold df; omega]
theorem n_rc (a b : Nat) (v : Int32) : nI a + v + nI b = nI (a + b) + v := by rw [Int32.add_assoc, Int32.add_comm v, ← Int32.add_assoc, nI_add]
/-- what a mark starts from and what a kind adds -/
def BM (k v a b d : Nat) : Nat := if k = 0 then a else if k = 1 then a + v else if k = 2 then a else if k = 3 then (a * (10 - v) + b * v) / 10 else if k = 4 then a + v + (9 - d) else if k = 5 then a else (a * (10 - v) + b * v) / 10 + 2 * v
theorem r_mark {w c k v a b d e : Nat} {x : Int32} {a10 a11 b10 b11 : Nat → Int32} (hw : w < 10) (hc : c < 4) (hk : k ≤ 6) (hv : v ≤ 9) (ha : a ≤ 99) (hb : b ≤ 99) (hd : d ≤ 9) (he : e ≤ 9) (h60 : s (60 + c) = nI k) (h64 : s (64 + c) = nI v) (h68 : s (68 + c) = nI e) (h1 : s (1 + w) = nI a) (h11 : s (11 + w) = nI b) (h41 : s (41 + w) = nI d) (hm : pX12_moreOf s a10 a11 (nI w) (nI c) = some (x, b10, b11)) : pX12_markOf s a10 a11 (nI w) (nI c) = some (nI (BM k v a b (df d e)) + x, b10, b11) := by
  have hdf : df d e ≤ 9 := by unfold df; omega
  have hp1 : a * (10 - v) ≤ 99 * 10 := Nat.mul_le_mul ha (by omega)
  have hp2 : b * v ≤ 99 * 9 := Nat.mul_le_mul hb hv
  have hs := z_size (show d < 1000 by omega) (show e < 1000 by omega)
  rcases (show k = 0 ∨ k = 1 ∨ k = 2 ∨ k = 3 ∨ k = 4 ∨ k = 5 ∨ k = 6 by omega) with q | q | q | q | q | q | q <;> subst q
  · simp (disch := omega) only [pX12_markOf, pX12_markOf_74, pX12_markOf_117, n_lit, nI_add, nI_1, n_cl, gck_in, gck_t, gck_T, ↓gnm_e, gbd_s, ↓reduceIte, n_leT, n_leF, n_ltT, n_ltF, n_eqT, n_eqF, Nat.add_zero, Nat.zero_add, h60, h64, h68, h1, h41, hm, hs, n_sub, n_add0]; rfl
  · simp (disch := omega) only [pX12_markOf, pX12_markOf_74, pX12_markOf_117, n_lit, nI_add, nI_1, n_cl, gck_in, gck_t, gck_T, ↓gnm_e, gbd_s, ↓reduceIte, n_leT, n_leF, n_ltT, n_ltF, n_eqT, n_eqF, Nat.add_zero, Nat.zero_add, h60, h64, h68, h1, h41, hm, hs, n_sub, n_add0, n_rc]; rfl
  · simp (disch := omega) only [pX12_markOf, pX12_markOf_74, pX12_markOf_117, n_lit, nI_add, nI_1, n_cl, gck_in, gck_t, gck_T, ↓gnm_e, gbd_s, ↓reduceIte, n_leT, n_leF, n_ltT, n_ltF, n_eqT, n_eqF, Nat.add_zero, Nat.zero_add, h60, h64, h68, h1, h41, hm, hs, n_sub, n_add0]; rfl
  · simp (disch := omega) only [pX12_markOf, pX12_markOf_44, pX12_markOf_74, pX12_markOf_117, n_lit, nI_add, nI_1, n_cl, gck_in, gck_t, gck_T, ↓gnm_e, gbd_s, ↓reduceIte, n_leT, n_leF, n_ltT, n_ltF, n_eqT, n_eqF, Nat.add_zero, Nat.zero_add, h60, h64, h68, h1, h11, h41, hm, hs, n_sub, n_add0, pk_mul, pk_div]; rfl
  · by_cases z : df d e = 9
    · rw [z] at hs ⊢
      simp (disch := omega) only [pX12_markOf, pX12_markOf_74, pX12_markOf_117, n_lit, nI_add, nI_1, n_cl, gck_in, gck_t, gck_T, ↓gnm_e, gbd_s, ↓reduceIte, n_leT, n_leF, n_ltT, n_ltF, n_eqT, n_eqF, Nat.add_zero, Nat.zero_add, h60, h64, h68, h1, h41, hm, hs, n_sub, n_add0, n_rc]; rfl
    · simp (disch := omega) only [pX12_markOf, pX12_markOf_74, pX12_markOf_117, n_lit, nI_add, nI_1, n_cl, gck_in, gck_t, gck_T, ↓gnm_e, gbd_s, ↓reduceIte, n_leT, n_leF, n_ltT, n_ltF, n_eqT, n_eqF, Nat.add_zero, Nat.zero_add, h60, h64, h68, h1, h41, hm, hs, n_sub, n_add0, n_rc]; rfl
  · simp (disch := omega) only [pX12_markOf, pX12_markOf_74, pX12_markOf_117, n_lit, nI_add, nI_1, n_cl, gck_in, gck_t, gck_T, ↓gnm_e, gbd_s, ↓reduceIte, n_leT, n_leF, n_ltT, n_ltF, n_eqT, n_eqF, Nat.add_zero, Nat.zero_add, h60, h64, h68, h1, h41, hm, hs, n_sub, n_add0]; rfl
  · simp (disch := omega) only [pX12_markOf, pX12_markOf_44, pX12_markOf_74, pX12_markOf_117, n_lit, nI_add, nI_1, n_cl, gck_in, gck_t, gck_T, ↓gnm_e, gbd_s, ↓reduceIte, n_leT, n_leF, n_ltT, n_ltF, n_eqT, n_eqF, Nat.add_zero, Nat.zero_add, h60, h64, h68, h1, h11, h41, hm, hs, n_sub, n_add0, pk_mul, pk_div, n_rc]; rfl
theorem c_has (h10 : W ≤ 10) {w : Nat} (hw : w < W) : pX10_hasWorker_w0 (nI W) (nI w) = some (nI 1) := by
  unfold pX10_hasWorker_w0
  simp (disch := omega) only [n_lit, nI_add, nI_1, n_cl, gck_in, gck_t, gck_T, ↓gnm_e, gbd_s, ↓reduceIte, n_leT, n_leF, n_ltT, n_ltF, n_eqT, n_eqF, Nat.add_zero, Nat.zero_add]
theorem c_mark {F : gF} {h B w c k v a b d e : Nat} {x : Int32} {A8 A9 A10 A11 g5 : Nat → Int32} (h10 : W ≤ 10) (hw : w < W) (hc : c < 4) (hk : k ≤ 6) (hv : v ≤ 9) (ha : a ≤ 99) (hb : b ≤ 99) (hd : d ≤ 9) (he : e ≤ 9) (hchv : chv F B = true) (h60 : ck F B = nI k) (hn : cn F B = nI c) (h64 : cv F B = nI v) (h68 : cd F B = nI e) (h1 : A8 w = nI a) (h11 : A9 w = nI b) (h41 : A11 w = nI d) (hh : hsv F h = true) {p : Nat → Bool} (hp : ∀ w, w < W → (p w = true ↔ A10 w = nI c)) (hy : y ≤ 120) {f : Nat → Int32} (hf : f = upd (upd (upd (upd (upd (upd g5 0 (nI w)) 1 (nI c)) 2 (nI k)) 3 (nI (a / 10))) 4 (nI (y % 10))) 5 (nI (kn p W))) (hr : pX2_raise F h f = some x) : pX1_markBy_w0 F (nI W) (nI y) A8 A9 A10 A11 h g5 (nI w) B = some (nI (BM k v a b (df d e)) + x, f) := by
  have hdf : df d e ≤ 9 := by unfold df; omega
  have hp1 : a * (10 - v) ≤ 99 * 10 := Nat.mul_le_mul ha (by omega)
  have hp2 : b * v ≤ 99 * 9 := Nat.mul_le_mul hb hv
  have hs := z_abs (show e < 1000 by omega) (show d < 1000 by omega)
  have hs2 : df e d = df d e := by unfold df; omega
  rw [hs2] at hs
  have hbits := c_team (a10 := A10) h10 hp
  have hbc := pc_bc (tb p W) (tb_1024 p h10)
  rw [pc_tb p W h10] at hbc
  have e4 : nI y - nI y / nI 10 * nI 10 = nI (y % 10) := pk_rem (by omega) (by decide) (by decide)
  have e3 : nI a / nI 10 = nI (a / 10) := pk_div (by omega) (by decide) (by decide)
  have hhas := c_has h10 hw
  have e5 : (nI a * nI (10 - v) + nI b * nI v) / nI 10 = nI ((a * (10 - v) + b * v) / 10) := by
    rw [pk_mul, pk_mul, nI_add, pk_div (by omega) (by decide) (by decide)]
  have e6 : nI 2 * nI v = nI (2 * v) := pk_mul 2 v
  unfold pX1_markBy_w0
  rcases (show k = 0 ∨ k = 1 ∨ k = 2 ∨ k = 3 ∨ k = 4 ∨ k = 5 ∨ k = 6 by omega) with q | q | q | q | q | q | q <;> subst q
  · simp (disch := omega) only [pX0_seen_k0, pX0_favour_k0, n_lit, nI_add, nI_1, n_cl, gck_in, gck_t, gck_T, ↓gnm_e, gbd_s, ↓reduceIte, n_leT, n_leF, n_ltT, n_ltF, n_eqT, n_eqF, Nat.add_zero, Nat.zero_add, hhas, hchv, hn, h60, h1, h11, h41, e3, e4, hbits, hbc, hh, ← hf, hr]; rfl
  · simp (disch := omega) only [pX0_seen_k1, pX5_favour_k1, n_lit, nI_add, nI_1, n_cl, gck_in, gck_t, gck_T, ↓gnm_e, gbd_s, ↓reduceIte, n_leT, n_leF, n_ltT, n_ltF, n_eqT, n_eqF, Nat.add_zero, Nat.zero_add, hhas, hchv, hn, h60, h64, h1, h11, h41, e3, e4, hbits, hbc, hh, ← hf, hr]; rfl
  · simp (disch := omega) only [pX0_seen_k2, pX0_favour_k2, n_lit, nI_add, nI_1, n_cl, gck_in, gck_t, gck_T, ↓gnm_e, gbd_s, ↓reduceIte, n_leT, n_leF, n_ltT, n_ltF, n_eqT, n_eqF, Nat.add_zero, Nat.zero_add, hhas, hchv, hn, h60, h1, h11, h41, e3, e4, hbits, hbc, hh, ← hf, hr]; rfl
  · simp (disch := omega) only [pX4_seen_k3, pX0_favour_k3, n_lit, nI_add, nI_1, n_cl, gck_in, gck_t, gck_T, ↓gnm_e, gbd_s, ↓reduceIte, n_leT, n_leF, n_ltT, n_ltF, n_eqT, n_eqF, Nat.add_zero, Nat.zero_add, hhas, hchv, hn, h60, h64, h1, h11, h41, e3, e4, hbits, hbc, hh, ← hf, hr, n_sub, e5, e6]; rfl
  · simp (disch := omega) only [pX0_seen_k4, pX6_favour_k4, pX5_favour_k4, n_lit, nI_add, nI_1, n_cl, gck_in, gck_t, gck_T, ↓gnm_e, gbd_s, ↓reduceIte, n_leT, n_leF, n_ltT, n_ltF, n_eqT, n_eqF, Nat.add_zero, Nat.zero_add, hhas, hchv, hn, h60, h64, h68, h1, h11, h41, e3, e4, hbits, hbc, hh, ← hf, hr, hs, n_sub]
    exact congrArg (fun z => some (nI z + x, f)) (by show a + (v + 9 - df d e) = a + v + (9 - df d e); omega)
  · simp (disch := omega) only [pX0_seen_k5, pX0_favour_k5, n_lit, nI_add, nI_1, n_cl, gck_in, gck_t, gck_T, ↓gnm_e, gbd_s, ↓reduceIte, n_leT, n_leF, n_ltT, n_ltF, n_eqT, n_eqF, Nat.add_zero, Nat.zero_add, hhas, hchv, hn, h60, h1, h11, h41, e3, e4, hbits, hbc, hh, ← hf, hr]; rfl
  · simp (disch := omega) only [pX4_seen_k6, pX7_favour_k6, n_lit, nI_add, nI_1, n_cl, gck_in, gck_t, gck_T, ↓gnm_e, gbd_s, ↓reduceIte, n_leT, n_leF, n_ltT, n_ltF, n_eqT, n_eqF, Nat.add_zero, Nat.zero_add, hhas, hchv, hn, h60, h64, h1, h11, h41, e3, e4, hbits, hbc, hh, ← hf, hr, n_sub, e5, e6]; rfl
end MK
