/-! PURE SIDE: levelled grades -/
section LEV
variable {s : Nat → Int32} {W C y : Nat} {F : gF} {h : Nat}
theorem r_mean7 {a12 : Nat → Int32} {c : Int32} {p : Nat → Bool} (hW : s 51 = nI W) (h10 : W ≤ 10) (hp : ∀ w, w < W → (p w = true ↔ (c = -nI 1 ∨ s (31 + w) = c))) : ∀ k n x : Nat, x + k = W → k < n → pX12_meanOf_7 s a12 n c (sm p a12 x) (nI (kn p x)) (nI x) = some (MN W p a12) := by
  intro k
  induction k with
  | zero =>
    intro n x e hn
    obtain ⟨n, rfl⟩ : ∃ j, n = j + 1 := ⟨n - 1, by omega⟩
    have e2 : x = W := by omega
    subst e2
    have hkx := kn_le p x
    unfold MN
    by_cases z : kn p x = 0
    · rw [if_pos z]
      simp (disch := omega) only [pX12_meanOf_7, n_lit, nI_add, nI_1, n_cl, gck_in, gck_t, gck_T, ↓gnm_e, gbd_s, ↓reduceIte, n_leT, n_leF, n_ltT, n_ltF, n_eqT, n_eqF, Nat.add_zero, Nat.zero_add, hW]
    · rw [if_neg z]
      simp (disch := omega) only [pX12_meanOf_7, n_lit, nI_add, nI_1, n_cl, gck_in, gck_t, gck_T, ↓gnm_e, gbd_s, ↓reduceIte, n_leT, n_leF, n_ltT, n_ltF, n_eqT, n_eqF, Nat.add_zero, Nat.zero_add, hW]
      rw [gck_t (fun z => z)]
  | succ k ih =>
    intro n x e hn
    obtain ⟨n, rfl⟩ : ∃ j, n = j + 1 := ⟨n - 1, by omega⟩
    have hkx := kn_le p x
    have z := ih n (x + 1) (by omega) (by omega)
    have hpx := hp x (by omega)
    by_cases q1 : c = -nI 1
    · have q : p x = true := hpx.mpr (Or.inl q1)
      rw [sm_t q, kn_t q] at z
      simp (disch := omega) only [pX12_meanOf_7, pX12_meanOf_62, n_lit, nI_add, nI_1, n_cl, gck_in, gck_t, gck_T, ↓gnm_e, gbd_s, ↓reduceIte, n_leT, n_leF, n_ltT, n_ltF, n_eqT, n_eqF, Nat.add_zero, Nat.zero_add, hW, q1]
      rw [q1] at z
      simpa only [n_lit, nI_add, nI_1, n_cl, gck_in, gck_t, gck_T, ↓gnm_e, gbd_s, ↓reduceIte, n_leT, n_leF, n_ltT, n_ltF, n_eqT, n_eqF, Nat.add_zero, Nat.zero_add] using z
    · by_cases q2 : s (31 + x) = c
      · have q : p x = true := hpx.mpr (Or.inr q2)
        rw [sm_t q, kn_t q] at z
        simp (disch := omega) only [pX12_meanOf_7, pX12_meanOf_62, n_lit, nI_add, nI_1, n_cl, gck_in, gck_t, gck_T, ↓gnm_e, gbd_s, ↓reduceIte, n_leT, n_leF, n_ltT, n_ltF, n_eqT, n_eqF, Nat.add_zero, Nat.zero_add, hW, q1, q2, z]
      · have q : ¬ p x = true := fun y => (hpx.mp y).elim q1 q2
        rw [sm_f q, kn_f q] at z
        simp (disch := omega) only [pX12_meanOf_7, pX12_meanOf_62, n_lit, nI_add, nI_1, n_cl, gck_in, gck_t, gck_T, ↓gnm_e, gbd_s, ↓reduceIte, n_leT, n_leF, n_ltT, n_ltF, n_eqT, n_eqF, Nat.add_zero, Nat.zero_add, hW, q1, q2, n_add0, z]
theorem r_mean {a12 : Nat → Int32} {c : Int32} {p : Nat → Bool} (hW : s 51 = nI W) (h10 : W ≤ 10) (hp : ∀ w, w < W → (p w = true ↔ (c = -nI 1 ∨ s (31 + w) = c))) : pX12_meanOf s a12 c = some (MN W p a12) := by
  unfold pX12_meanOf
  exact r_mean7 hW h10 hp W 1000 0 (by omega) (by omega)
theorem c_mean13 {g1 g2 : Nat → Int32} {p : Nat → Bool} (h10 : W ≤ 10) (hp : ∀ w, p w = true → w < W) (hg : tm p g2) (h0 : 0 < kn p W) : ∀ k n x : Nat, x + k = W → k < n → pX1_meanOfTeam_13 (nI (kn p W)) g1 g2 n (sm p g1 x) (nI (kn p x)) = some (sm p g1 W / nI (kn p W)) := by
  have hcW := kn_le p W
  intro k
  induction k with
  | zero =>
    intro n x e hn
    obtain ⟨n, rfl⟩ : ∃ j, n = j + 1 := ⟨n - 1, by omega⟩
    have e2 : x = W := by omega
    subst e2
    simp (disch := omega) only [pX1_meanOfTeam_13, n_lit, nI_add, nI_1, n_cl, gck_in, gck_t, gck_T, ↓gnm_e, gbd_s, ↓reduceIte, n_leT, n_leF, n_ltT, n_ltF, n_eqT, n_eqF, Nat.add_zero, Nat.zero_add]
    rw [gck_t (fun z => z)]
  | succ k ih =>
    intro n x e hn
    by_cases q : p x = true
    · obtain ⟨n, rfl⟩ : ∃ j, n = j + 1 := ⟨n - 1, by omega⟩
      have z := ih n (x + 1) (by omega) (by omega)
      have hx2 := kn_lt (show x < W by omega) q
      rw [kn_t q, sm_t q] at z
      simp (disch := omega) only [pX1_meanOfTeam_13, n_lit, nI_add, nI_1, n_cl, gck_in, gck_t, gck_T, ↓gnm_e, gbd_s, ↓reduceIte, n_leT, n_leF, n_ltT, n_ltF, n_eqT, n_eqF, Nat.add_zero, Nat.zero_add, hg x q, z]
    · have z := ih n (x + 1) (by omega) (by omega)
      rw [kn_f q, sm_f q] at z
      exact z
theorem c_mean {g1 g2 : Nat → Int32} {p : Nat → Bool} (h10 : W ≤ 10) (hp : ∀ w, p w = true → w < W) (hg : tm p g2) : pX1_meanOfTeam (nI (kn p W)) g1 g2 = some (MN W p g1) := by
  have hcW := kn_le p W
  unfold pX1_meanOfTeam MN
  by_cases z : kn p W = 0
  · rw [if_pos (by rw [z]; rfl), if_pos z]; rfl
  · rw [if_neg (by rw [n_lit, n_eq (by omega) (by omega)]; exact z), if_neg z]
    exact c_mean13 h10 hp hg (by omega) W 1000 0 (by omega) (by omega)
theorem MN_congr {p : Nat → Bool} {m m' : Nat → Int32} (hm : ∀ x, x < W → p x = true → m x = m' x) : MN W p m = MN W p m' := by
  unfold MN
  rw [sm_congr (q := p) (g := m') (fun w hw => ⟨rfl, hm w hw⟩)]
/-! the reference -/
theorem r_lev2 (hI : IV s W C y) (hH : HR F h s) (hB : CHS F s C) {a13 a15 a16 : Nat → Int32} : ∀ k n x : Nat, ∀ a10 a11 a12 : Nat → Int32, x + k = W → k < n → (∀ w, w < x → a12 w = M0 s w) → ∃ b10 b11 b12, pX12_levelsAll_2 s n a10 a11 a12 a13 a15 a16 (nI x) = pX12_levelsAll_47 s 1000 b10 b11 b12 a13 a15 a16 (MN W (al W) (M0 s)) (nI 0) ∧ ∀ w, w < W → b12 w = M0 s w := by
  have hW := hI.1
  have h10 := hI.2.1
  intro k
  induction k with
  | zero =>
    intro n x a10 a11 a12 e hn ha
    obtain ⟨n, rfl⟩ : ∃ j, n = j + 1 := ⟨n - 1, by omega⟩
    have e2 : x = W := by omega
    subst e2
    have hm := r_mean (a12 := a12) (c := -nI 1) (p := al x) hW h10 (fun w hw => ⟨fun _ => Or.inl rfl, fun _ => al_t.mpr hw⟩)
    rw [MN_congr (m' := M0 s) (fun w hw _ => ha w hw)] at hm
    refine ⟨a10, a11, a12, ?_, ha⟩
    simp (disch := omega) only [pX12_levelsAll_2, n_lit, nI_add, nI_1, n_cl, gck_in, gck_t, gck_T, ↓gnm_e, gbd_s, ↓reduceIte, n_leT, n_leF, n_ltT, n_ltF, n_eqT, n_eqF, Nat.add_zero, Nat.zero_add, hW, hm]
  | succ k ih =>
    intro n x a10 a11 a12 e hn ha
    obtain ⟨n, rfl⟩ : ∃ j, n = j + 1 := ⟨n - 1, by omega⟩
    obtain ⟨c1, c2⟩ := iv_ch hI (show x < W by omega)
    obtain ⟨B, hB⟩ := hB _ c1
    obtain ⟨b10, b11, hm⟩ := (j_mark hI hH (show x < W by omega) c1 hB).1 a10 a11
    obtain ⟨d10, d11, d12, k1, k2⟩ := ih n (x + 1) b10 b11 (upd a12 x (MK s x (chN s x))) (by omega) (by omega) (fun w hw => by
      by_cases ew : w = x
      · subst ew; exact pk_us
      · rw [pk_un ew]; exact ha w (by omega))
    refine ⟨d10, d11, d12, ?_, k2⟩
    rw [← k1]
    have h4 := hI.2.2.2.1
    simp (disch := omega) only [pX12_levelsAll_2, n_lit, nI_add, nI_1, n_cl, gck_in, gck_t, gck_T, ↓gnm_e, gbd_s, ↓reduceIte, n_leT, n_leF, n_ltT, n_ltF, n_eqT, n_eqF, Nat.add_zero, Nat.zero_add, hW, c2, hm]
theorem r_lev47 (hI : IV s W C y) {a10 a11 a12 a13 a15 : Nat → Int32} {v : Int32} (ha : ∀ w, w < W → a12 w = M0 s w) : ∀ k n c : Nat, ∀ a16 : Nat → Int32, c + k = C → k < n → (∀ j, j < c → a16 j = MN W (TT s j) (M0 s)) → ∃ b16, pX12_levelsAll_47 s n a10 a11 a12 a13 a15 a16 v (nI c) = pX12_levelsAll_77 s 1000 a10 a11 a12 a13 a15 b16 v (nI 0) ∧ ∀ j, j < C → b16 j = MN W (TT s j) (M0 s) := by
  have hW := hI.1
  have h10 := hI.2.1
  have hC := hI.2.2.1
  have h4 := hI.2.2.2.1
  intro k
  induction k with
  | zero =>
    intro n c a16 e hn hg
    obtain ⟨n, rfl⟩ : ∃ j, n = j + 1 := ⟨n - 1, by omega⟩
    have e2 : c = C := by omega
    subst e2
    refine ⟨a16, ?_, hg⟩
    simp (disch := omega) only [pX12_levelsAll_47, n_lit, nI_add, nI_1, n_cl, gck_in, gck_t, gck_T, ↓gnm_e, gbd_s, ↓reduceIte, n_leT, n_leF, n_ltT, n_ltF, n_eqT, n_eqF, Nat.add_zero, Nat.zero_add, hC]
  | succ k ih =>
    intro n c a16 e hn hg
    obtain ⟨n, rfl⟩ : ∃ j, n = j + 1 := ⟨n - 1, by omega⟩
    have hm := r_mean (a12 := a12) (c := nI c) (p := TT s c) hW h10 (fun w hw => by
      rw [tt_eq hI, pT_iff]
      constructor
      · exact fun z => Or.inr z.2
      · intro z
        rcases z with z | z
        · rw [z_peq (by omega) (by omega) (by omega)] at z; exact z.elim
        · exact ⟨hw, z⟩)
    rw [MN_congr (m' := M0 s) (fun w hw _ => ha w hw)] at hm
    obtain ⟨b16, k1, k2⟩ := ih n (c + 1) (upd a16 c (MN W (TT s c) (M0 s))) (by omega) (by omega) (fun j hj => by
      by_cases ej : j = c
      · subst ej; exact pk_us
      · rw [pk_un ej]; exact hg j (by omega))
    refine ⟨b16, ?_, k2⟩
    rw [← k1]
    simp (disch := omega) only [pX12_levelsAll_47, n_lit, nI_add, nI_1, n_cl, gck_in, gck_t, gck_T, ↓gnm_e, gbd_s, ↓reduceIte, n_leT, n_leF, n_ltT, n_ltF, n_eqT, n_eqF, Nat.add_zero, Nat.zero_add, hC, hm]
theorem r_lev77 (hI : IV s W C y) {a10 a11 a13 a15 a16 : Nat → Int32} (h16 : ∀ j, j < C → a16 j = MN W (TT s j) (M0 s)) : ∀ k n x : Nat, ∀ a12 : Nat → Int32, x + k = W → k < n → (∀ w, w < W → a12 w = if w < x then LM s w else M0 s w) → ∃ b12, pX12_levelsAll_77 s n a10 a11 a12 a13 a15 a16 (MN W (al W) (M0 s)) (nI x) = pX12_levelsAll_121 s 1000 a10 a11 b12 a13 a15 a16 (nI 0) ∧ ∀ w, w < W → b12 w = LM s w := by
  have hW := hI.1
  have h10 := hI.2.1
  have h4 := hI.2.2.2.1
  intro k
  induction k with
  | zero =>
    intro n x a12 e hn ha
    obtain ⟨n, rfl⟩ : ∃ j, n = j + 1 := ⟨n - 1, by omega⟩
    have e2 : x = W := by omega
    subst e2
    refine ⟨a12, ?_, fun w hw => by rw [ha w hw, if_pos hw]⟩
    simp (disch := omega) only [pX12_levelsAll_77, n_lit, nI_add, nI_1, n_cl, gck_in, gck_t, gck_T, ↓gnm_e, gbd_s, ↓reduceIte, n_leT, n_leF, n_ltT, n_ltF, n_eqT, n_eqF, Nat.add_zero, Nat.zero_add, hW]
  | succ k ih =>
    intro n x a12 e hn ha
    obtain ⟨n, rfl⟩ : ∃ j, n = j + 1 := ⟨n - 1, by omega⟩
    obtain ⟨c1, c2⟩ := iv_ch hI (show x < W by omega)
    have hax := ha x (by omega)
    rw [if_neg (Nat.lt_irrefl x)] at hax
    obtain ⟨b12, k1, k2⟩ := ih n (x + 1) (upd a12 x (LM s x)) (by omega) (by omega) (fun w hw => by
      by_cases ew : w = x
      · subst ew; rw [pk_us, if_pos (by omega)]
      · rw [pk_un ew, ha w hw]
        by_cases z : w < x
        · rw [if_pos z, if_pos (by omega)]
        · rw [if_neg z, if_neg (by omega)])
    refine ⟨b12, ?_, k2⟩
    rw [← k1]
    have e3 : M0 s x + (MN W (al W) (M0 s) - a16 (chN s x)) = LM s x := by
      unfold LM; rw [h16 _ c1, iv_W hI]
    simp (disch := omega) only [pX12_levelsAll_77, n_lit, nI_add, nI_1, n_cl, gck_in, gck_t, gck_T, ↓gnm_e, gbd_s, ↓reduceIte, n_leT, n_leF, n_ltT, n_ltF, n_eqT, n_eqF, Nat.add_zero, Nat.zero_add, hW, c2, hax, e3]
theorem r_lev121 (hI : IV s W C y) (hH : HR F h s) {a10 a11 a12 a16 : Nat → Int32} (ha : ∀ w, w < W → a12 w = LM s w) : ∀ k n c : Nat, ∀ a13 a15 : Nat → Int32, c + k = C → k < n → (∀ w, w < W → chN s w < c → a13 w = LV s w) → ∃ b13 b15, pX12_levelsAll_121 s n a10 a11 a12 a13 a15 a16 (nI c) = some (a10, a11, a12, b13, b15, a16) ∧ ∀ w, w < W → b13 w = LV s w := by
  have hC := hI.2.2.1
  have h4 := hI.2.2.2.1
  intro k
  induction k with
  | zero =>
    intro n c a13 a15 e hn hg
    obtain ⟨n, rfl⟩ : ∃ j, n = j + 1 := ⟨n - 1, by omega⟩
    have e2 : c = C := by omega
    subst e2
    refine ⟨a13, a15, ?_, fun w hw => hg w hw (iv_ch hI hw).1⟩
    simp (disch := omega) only [pX12_levelsAll_121, n_lit, nI_add, nI_1, n_cl, gck_in, gck_t, gck_T, ↓gnm_e, gbd_s, ↓reduceIte, n_leT, n_leF, n_ltT, n_ltF, n_eqT, n_eqF, Nat.add_zero, Nat.zero_add, hC]
  | succ k ih =>
    intro n c a13 a15 e hn hg
    obtain ⟨n, rfl⟩ : ∃ j, n = j + 1 := ⟨n - 1, by omega⟩
    obtain ⟨b13, b15, k1, k2⟩ := r_gt hI hH (show c < C by omega) a12 a13 a15
    obtain ⟨d13, d15, k3, k4⟩ := ih n (c + 1) b13 b15 (by omega) (by omega) (fun w hw hc => by
      rw [k2 w]
      by_cases q : TT s c w = true
      · rw [if_pos q]
        have qc := ((iv_T hI (show c < C by omega)).mp q).2
        unfold LV
        rw [qc]
        exact TG_congr (fun x hx => ha x ((iv_T hI (show c < C by omega)).mp hx).1) q
      · rw [if_neg q]
        refine hg w hw ?_
        have : chN s w ≠ c := fun z => q ((iv_T hI (show c < C by omega)).mpr ⟨hw, z⟩)
        omega)
    refine ⟨d13, d15, ?_, k4⟩
    rw [← k3]
    simp (disch := omega) only [pX12_levelsAll_121, n_lit, nI_add, nI_1, n_cl, gck_in, gck_t, gck_T, ↓gnm_e, gbd_s, ↓reduceIte, n_leT, n_leF, n_ltT, n_ltF, n_eqT, n_eqF, Nat.add_zero, Nat.zero_add, hC, k1]
theorem r_lev (hI : IV s W C y) (hH : HR F h s) (hB : CHS F s C) (a10 a11 a12 a13 a15 a16 : Nat → Int32) : ∃ b10 b11 b12 b13 b15 b16, pX12_levelsAll s a10 a11 a12 a13 a15 a16 = some (b10, b11, b12, b13, b15, b16) ∧ ∀ w, w < W → b13 w = LV s w := by
  have h10 := hI.2.1
  have h4 := hI.2.2.2.1
  obtain ⟨b10, b11, b12, k1, k2⟩ := r_lev2 (a13 := a13) (a15 := a15) (a16 := a16) hI hH hB W 1000 0 a10 a11 a12 (by omega) (by omega) (fun w hw => absurd hw (Nat.not_lt_zero _))
  obtain ⟨b16, k3, k4⟩ := r_lev47 (a10 := b10) (a11 := b11) (a12 := b12) (a13 := a13) (a15 := a15) (v := MN W (al W) (M0 s)) hI k2 C 1000 0 a16 (by omega) (by omega) (fun w hw => absurd hw (Nat.not_lt_zero _))
  obtain ⟨d12, k5, k6⟩ := r_lev77 (a10 := b10) (a11 := b11) (a13 := a13) (a15 := a15) (a16 := b16) hI k4 W 1000 0 b12 (by omega) (by omega) (fun w hw => by rw [if_neg (Nat.not_lt_zero _)]; exact k2 w hw)
  obtain ⟨b13, b15, k7, k8⟩ := r_lev121 (a10 := b10) (a11 := b11) (a16 := b16) hI hH k6 C 1000 0 a13 a15 (by omega) (by omega) (fun w _ hc => absurd hc (Nat.not_lt_zero _))
  refine ⟨b10, b11, d12, b13, b15, b16, ?_, k8⟩
  unfold pX12_levelsAll
  exact k1.trans (k3.trans (k5.trans k7))
/-! the component -/
theorem c_lev106 {p : Nat → Bool} {k63 : Int32 → (Nat → Int32) → (Nat → Int32) → (Nat → Int32) → (Nat → Int32) → (Nat → Int32) → Int32 → Int32 → Option (Int32 × (Nat → Int32) × (Nat → Int32) × (Nat → Int32) × (Nat → Int32) × (Nat → Int32))} {o0 o1 o5 : Int32} {A8 A9 A10 A11 g0 g2 g3 g5 : Nat → Int32} {Cf : Nat → Option Nat} {v : Int32} {c : Int32} {B : Nat} {mr : Int32} (h10 : W ≤ 10) (hp : ∀ w, p w = true → w < W) (hg : tm p g2) : ∀ k n x : Nat, ∀ g1 : Nat → Int32, x + k = W → k < n → ∃ f1, pX1_gradeLevelled_w0_106 F k63 o0 o1 o5 A8 A9 A10 A11 h Cf n (nI (kn p W)) g0 g1 g2 g3 g5 v c B mr (nI (kn p x)) = (gbd (pX1_share_w0 F o5 h (nI (kn p W)) f1 g2 g0 g3 B) fun z_1 => k63 (nI (kn p W)) z_1.2.1 f1 g2 z_1.2.2 g5 v (c + nI 1)) ∧ ∀ w, f1 w = if x ≤ w ∧ p w = true then g1 w + mr else g1 w := by
  have hcW := kn_le p W
  intro k
  induction k with
  | zero =>
    intro n x g1 e hn
    obtain ⟨n, rfl⟩ : ∃ j, n = j + 1 := ⟨n - 1, by omega⟩
    have e2 : x = W := by omega
    subst e2
    refine ⟨g1, ?_, fun w => by rw [if_neg (fun z => by have := hp w z.2; omega)]⟩
    simp (disch := omega) only [pX1_gradeLevelled_w0_106, n_lit, nI_add, nI_1, n_cl, gck_in, gck_t, gck_T, ↓gnm_e, gbd_s, ↓reduceIte, n_leT, n_leF, n_ltT, n_ltF, n_eqT, n_eqF, Nat.add_zero, Nat.zero_add]
  | succ k ih =>
    intro n x g1 e hn
    by_cases q : p x = true
    · obtain ⟨n, rfl⟩ : ∃ j, n = j + 1 := ⟨n - 1, by omega⟩
      have hx2 := kn_lt (show x < W by omega) q
      obtain ⟨f1, k1, k2⟩ := ih n (x + 1) (upd g1 x (g1 x + mr)) (by omega) (by omega)
      rw [kn_t q] at k1
      refine ⟨f1, ?_, fun w => ?_⟩
      · rw [← k1]
        simp (disch := omega) only [pX1_gradeLevelled_w0_106, n_lit, nI_add, nI_1, n_cl, gck_in, gck_t, gck_T, ↓gnm_e, gbd_s, ↓reduceIte, n_leT, n_leF, n_ltT, n_ltF, n_eqT, n_eqF, Nat.add_zero, Nat.zero_add, hg x q]
      · rw [k2 w]
        by_cases ew : w = x
        · subst ew
          rw [pk_us, if_neg (by omega), if_pos ⟨Nat.le_refl _, q⟩]
        · rw [pk_un ew]
          by_cases c1 : x + 1 ≤ w ∧ p w = true
          · rw [if_pos c1, if_pos ⟨by omega, c1.2⟩]
          · rw [if_neg c1, if_neg (fun z => c1 ⟨by omega, z.2⟩)]
    · obtain ⟨f1, k1, k2⟩ := ih n (x + 1) g1 (by omega) (by omega)
      rw [kn_f q] at k1
      exact ⟨f1, k1, st_same (P := fun w => p w = true) (V := fun w => g1 w + mr) k2 q⟩
theorem c_lev63 (hI : IV s W C y) (hH : HR F h s) {Cf : Nat → Option Nat} (hB : CFS F s C Cf) {A8 A9 A10 A11 : Nat → Int32} (hA : WA s W A8 A9 A10 A11) : ∀ k n c : Nat, ∀ (gs : Int32) (g0 g1 g2 g3 g5 : Nat → Int32), c + k = C → k < n → (∀ w, w < W → (chN s w < c → g0 w = LV s w) ∧ (c ≤ chN s w → g1 w = M0 s w)) → ∃ fs f0 f1 f2 f3 f5, pX1_gradeLevelled_w0_63 F (nI W) (nI C) (nI y) A8 A9 A10 A11 h Cf n gs g0 g1 g2 g3 g5 (MN W (al W) (M0 s)) (nI c) = some (fs, f0, f1, f2, f3, f5) ∧ ∀ w, w < W → f0 w = LV s w := by
  have hI' := hI
  obtain ⟨hW, h10, hC, h4, hy, hy2, hV, hK⟩ := hI'
  obtain ⟨t0, ⟨t1, t2, -⟩, ⟨t3, t4, -⟩, -⟩ := hr_tl hH
  intro k
  induction k with
  | zero =>
    intro n c gs g0 g1 g2 g3 g5 e hn hg
    obtain ⟨n, rfl⟩ : ∃ j, n = j + 1 := ⟨n - 1, by omega⟩
    have e2 : c = C := by omega
    subst e2
    refine ⟨gs, g0, g1, g2, g3, g5, ?_, fun w hw => (hg w hw).1 (iv_ch hI hw).1⟩
    simp (disch := omega) only [pX1_gradeLevelled_w0_63, n_lit, nI_add, nI_1, n_cl, gck_in, gck_t, gck_T, ↓gnm_e, gbd_s, ↓reduceIte, n_leT, n_leF, n_ltT, n_ltF, n_eqT, n_eqF, Nat.add_zero, Nat.zero_add]
  | succ k ih =>
    intro n c gs g0 g1 g2 g3 g5 e hn hg
    obtain ⟨n, rfl⟩ : ∃ j, n = j + 1 := ⟨n - 1, by omega⟩
    have hc : c < C := by omega
    obtain ⟨b, hb, hch⟩ := hB c hc
    have hp : ∀ w, w < W → (TT s c w = true ↔ A10 w = nI c) := fun w hw => by
      rw [tt_eq hI, pT_iff, (hA w hw).2.2.1]; exact ⟨fun z => z.2, fun z => ⟨hw, z⟩⟩
    obtain ⟨f2, k1, k2⟩ := c_gather (p := TT s c) h10 (fun w hw => iv_Tlt hI w hw) gs g2
    have k3 := c_mean (g1 := g1) h10 (fun w hw => iv_Tlt hI w hw) k2
    have hin : ∀ x, x < W → TT s c x = true → g1 x = M0 s x := fun x hx hT => (hg x hx).2 (by rw [((iv_T hI hc).mp hT).2]; exact Nat.le_refl _)
    rw [MN_congr (m' := M0 s) hin] at k3
    obtain ⟨f1, k4, k5⟩ := c_lev106 (F := F) (h := h) (k63 := pX1_gradeLevelled_w0_63 F (nI W) (nI C) (nI y) A8 A9 A10 A11 h Cf n) (o0 := nI W) (o1 := nI C) (o5 := nI y) (A8 := A8) (A9 := A9) (A10 := A10) (A11 := A11) (g0 := g0) (g3 := g3) (g5 := g5) (Cf := Cf) (v := MN W (al W) (M0 s)) (c := nI c) (B := b) (mr := MN W (al W) (M0 s) - MN W (TT s c) (M0 s)) h10 (fun w hw => iv_Tlt hI w hw) k2 W 1000 0 g1 (by omega) (by omega)
    obtain ⟨v1, v2⟩ := iv_v hI hc
    obtain ⟨f0, f3, k6, k7⟩ := c_share (m := f1) (F := F) (b := b) (v := nn (s (64 + c))) h10 (fun w hw => iv_Tlt hI w hw) k2 hch.1 (show y < 1000 by omega) (by omega) (hch.2.2.2.1.trans v1) t0 t2 t4 t1 t3 g0 g3
    have hT : ∀ w, w < W → ¬ TT s c w = true → chN s w ≠ c := fun w hw q z => q ((iv_T hI hc).mpr ⟨hw, z⟩)
    obtain ⟨ds, d0, d1, d2, d3, d5, k8, k9⟩ := ih n (c + 1) (nI (kn (TT s c) W)) f0 f1 f2 f3 g5 (by omega) (by omega) (fun w hw => by
      refine ⟨fun hl => ?_, fun hl => ?_⟩
      · rw [k7 w]
        by_cases q : TT s c w = true
        · rw [if_pos q]
          have qc := ((iv_T hI hc).mp q).2
          unfold LV TG
          rw [qc, iv_W hI, iv_y hI, ← hch.2.1]
          refine GR_congr (fun x hx => ?_) q
          rw [k5 x, if_pos ⟨Nat.zero_le _, hx⟩, hin x (iv_Tlt hI x hx) hx]
          unfold LM
          rw [((iv_T hI hc).mp hx).2, iv_W hI]
        · rw [if_neg q]
          exact (hg w hw).1 (by have := hT w hw q; omega)
      · have q : ¬ TT s c w = true := fun z => by have := ((iv_T hI hc).mp z).2; omega
        rw [k5 w, if_neg (fun z => q z.2)]
        exact (hg w hw).2 (by omega))
    refine ⟨ds, d0, d1, d2, d3, d5, ?_, k9⟩
    rw [← k8]
    rw [pX1_gradeLevelled_w0_63]
    rw [if_neg (by rw [n_leF (by omega) (by omega)]; exact fun z => z), c_chief h4 hc hb, gbd_s, gmt_s, c_team h10 hp, gbd_s, k1, gbd_s, k3, gbd_s, gnm_e]
    refine (k4 : _).trans ?_
    rw [k6, gbd_s, n_a1]
theorem c_lev2 (hI : IV s W C y) (hH : HR F h s) {Cf : Nat → Option Nat} (hB : CFS F s C Cf) {A8 A9 A10 A11 : Nat → Int32} (hA : WA s W A8 A9 A10 A11) : ∀ k n c : Nat, ∀ (gs : Int32) (g0 g1 g2 g3 g5 : Nat → Int32), c + k = C → k < n → (∀ w, w < W → chN s w < c → g1 w = M0 s w) → ∃ fs f1 f2 f5, pX1_gradeLevelled_w0_2 F (nI W) (nI C) (nI y) A8 A9 A10 A11 h Cf n gs g0 g1 g2 g3 g5 (nI c) = pX1_gradeLevelled_w0_44 F (nI W) (nI C) (nI y) A8 A9 A10 A11 h Cf fs g0 f1 f2 g3 f5 ∧ ∀ w, w < W → f1 w = M0 s w := by
  have hI' := hI
  obtain ⟨hW, h10, hC, h4, hy, hy2, hV, hK⟩ := hI'
  intro k
  induction k with
  | zero =>
    intro n c gs g0 g1 g2 g3 g5 e hn hg
    obtain ⟨n, rfl⟩ : ∃ j, n = j + 1 := ⟨n - 1, by omega⟩
    have e2 : c = C := by omega
    subst e2
    refine ⟨gs, g1, g2, g5, ?_, fun w hw => hg w hw (iv_ch hI hw).1⟩
    simp (disch := omega) only [pX1_gradeLevelled_w0_2, n_lit, nI_add, nI_1, n_cl, gck_in, gck_t, gck_T, ↓gnm_e, gbd_s, ↓reduceIte, n_leT, n_leF, n_ltT, n_ltF, n_eqT, n_eqF, Nat.add_zero, Nat.zero_add]
  | succ k ih =>
    intro n c gs g0 g1 g2 g3 g5 e hn hg
    obtain ⟨n, rfl⟩ : ∃ j, n = j + 1 := ⟨n - 1, by omega⟩
    have hc : c < C := by omega
    obtain ⟨b, hb, hch⟩ := hB c hc
    have hp : ∀ w, w < W → (TT s c w = true ↔ A10 w = nI c) := fun w hw => by
      rw [tt_eq hI, pT_iff, (hA w hw).2.2.1]; exact ⟨fun z => z.2, fun z => ⟨hw, z⟩⟩
    obtain ⟨f2, k1, k2⟩ := c_gather (p := TT s c) h10 (fun w hw => iv_Tlt hI w hw) gs g2
    obtain ⟨f1, f5, k3, k4⟩ := c_marks hI hH hc hch hA k2 W 1000 0 g1 g5 (by omega) (by omega)
    obtain ⟨ds, d1, d2, d5, k5, k6⟩ := ih n (c + 1) (nI (kn (TT s c) W)) g0 f1 f2 g3 f5 (by omega) (by omega) (fun w hw hl => by
      rw [k4 w]
      by_cases q : TT s c w = true
      · rw [if_pos ⟨Nat.zero_le _, q⟩]
        unfold M0; rw [((iv_T hI hc).mp q).2]
      · rw [if_neg (fun z => q z.2)]
        refine hg w hw ?_
        have : chN s w ≠ c := fun z => q ((iv_T hI hc).mpr ⟨hw, z⟩)
        omega)
    have k3' : pX1_markTeam_w0 F (nI W) (nI y) A8 A9 A10 A11 h (nI (kn (TT s c) W)) f2 g1 g5 b = some (f1, f5) := by
      unfold pX1_markTeam_w0; exact k3
    refine ⟨ds, d1, d2, d5, ?_, k6⟩
    rw [← k5]
    rw [pX1_gradeLevelled_w0_2]
    rw [if_neg (by rw [n_leF (by omega) (by omega)]; exact fun z => z), c_chief h4 hc hb, gbd_s, gmt_s, c_team h10 hp, gbd_s, k1, gbd_s, k3', gbd_s, n_lit, n_a1]
theorem c_lev (hI : IV s W C y) (hH : HR F h s) {Cf : Nat → Option Nat} (hB : CFS F s C Cf) {A8 A9 A10 A11 : Nat → Int32} (hA : WA s W A8 A9 A10 A11) (gs : Int32) (g0 g1 g2 g3 g5 : Nat → Int32) : ∃ fs f0 f1 f2 f3 f5, pX1_gradeLevelled_w0 F (nI W) (nI C) (nI y) A8 A9 A10 A11 h Cf gs g0 g1 g2 g3 g5 = some (fs, f0, f1, f2, f3, f5) ∧ ∀ w, w < W → f0 w = LV s w := by
  have h10 := hI.2.1
  have h4 := hI.2.2.2.1
  obtain ⟨ds, d1, d2, d5, k1, k2⟩ := c_lev2 hI hH hB hA C 1000 0 gs g0 g1 g2 g3 g5 (by omega) (by omega) (fun w _ hc => absurd hc (Nat.not_lt_zero _))
  obtain ⟨e2, k3, k4⟩ := c_gat_all h10 ds d2
  have k5 := c_mean (g1 := d1) (p := al W) h10 (fun w hw => al_t.mp hw) k4
  rw [kn_al (Nat.le_refl W), MN_congr (m' := M0 s) (fun x hx _ => k2 x hx)] at k5
  obtain ⟨fs, f0, f1, f2, f3, f5, k6, k7⟩ := c_lev63 hI hH hB hA C 1000 0 (nI W) g0 d1 e2 g3 d5 (by omega) (by omega) (fun w hw => ⟨fun hc => absurd hc (Nat.not_lt_zero _), fun _ => k2 w hw⟩)
  refine ⟨fs, f0, f1, f2, f3, f5, ?_, k7⟩
  unfold pX1_gradeLevelled_w0
  refine k1.trans ?_
  unfold pX1_gradeLevelled_w0_44
  rw [n_lit, n_lit, k3, gbd_s, k5, gbd_s]
  exact k6
end LEV
