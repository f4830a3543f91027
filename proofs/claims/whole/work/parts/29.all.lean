/-! PURE SIDE: all grades, dues, levelled grades -/
theorem e14f1 : @pX12_givesFives_at14_137 = @pX12_givesFives_at13_137 := rfl
theorem e14f2 : @pX12_givesFives_at14_76 = @pX12_givesFives_at13_76 := rfl
theorem e14f3 : @pX12_givesFives_at14_35 = @pX12_givesFives_at13_35 := by
  funext k2 a1 a12 a15 n
  induction n with
  | zero => rfl
  | succ n ih => funext a x2 x3 x4 x5; simp only [pX12_givesFives_at14_35, pX12_givesFives_at13_35, ih, e14f1, e14f2]
theorem e14f4 : @pX12_givesFives_at14_2 = @pX12_givesFives_at13_2 := by
  funext a1 a12 a15 n
  induction n with
  | zero => rfl
  | succ n ih => funext a x2 x3; simp only [pX12_givesFives_at14_2, pX12_givesFives_at13_2, ih, e14f3]
theorem e14f : @pX12_givesFives_at14 = @pX12_givesFives_at13 := by
  funext a1 a12 a15 a x2
  unfold pX12_givesFives_at14 pX12_givesFives_at13
  rw [e14f4]
theorem e14o1 : @pX12_givesOnes_at14_104 = @pX12_givesOnes_at13_104 := rfl
theorem e14o3 : @pX12_givesOnes_at14_28 = @pX12_givesOnes_at13_28 := by
  funext k2 a1 a12 a15 n
  induction n with
  | zero => rfl
  | succ n ih => funext a x2 x3 x4 x5; simp only [pX12_givesOnes_at14_28, pX12_givesOnes_at13_28, ih, e14o1]
theorem e14o4 : @pX12_givesOnes_at14_2 = @pX12_givesOnes_at13_2 := by
  funext a1 a12 a15 n
  induction n with
  | zero => rfl
  | succ n ih => funext a x2 x3; simp only [pX12_givesOnes_at14_2, pX12_givesOnes_at13_2, ih, e14o3]
theorem e14o : @pX12_givesOnes_at14 = @pX12_givesOnes_at13 := by
  funext a1 a12 a15 a x2
  unfold pX12_givesOnes_at14 pX12_givesOnes_at13
  rw [e14o4]
def CHS (F : gF) (s : Nat → Int32) (C : Nat) : Prop := ∀ c, c < C → ∃ b, CH F b s c
def WA (s : Nat → Int32) (W : Nat) (A8 A9 A10 A11 : Nat → Int32) : Prop := ∀ w, w < W → A8 w = s (1 + w) ∧ A9 w = s (11 + w) ∧ A10 w = s (31 + w) ∧ A11 w = s (41 + w)
def CFS (F : gF) (s : Nat → Int32) (C : Nat) (Cf : Nat → Option Nat) : Prop := ∀ c, c < C → ∃ b, Cf c = some b ∧ CH F b s c
theorem cfs_chs {F : gF} {s : Nat → Int32} {C : Nat} {Cf : Nat → Option Nat} (h : CFS F s C Cf) : CHS F s C := fun c hc => by
  obtain ⟨b, -, h2⟩ := h c hc
  exact ⟨b, h2⟩
def PLF (F : gF) : Prop := chv F (gpl F) = true ∧ ck F (gpl F) = nI 0 ∧ cv F (gpl F) = nI 0
def al (W w : Nat) : Bool := decide (w < W)
theorem al_t {W w : Nat} : al W w = true ↔ w < W := by simp [al]
theorem kn_al : ∀ {n W : Nat}, n ≤ W → kn (al W) n = n := by
  intro n W
  induction n with
  | zero => intro _; rfl
  | succ n ih => intro h; rw [kn_t (al_t.mpr (by omega)), ih (by omega)]
def MN (W : Nat) (p : Nat → Bool) (m : Nat → Int32) : Int32 := if kn p W = 0 then nI 0 else sm p m W / nI (kn p W)
/-- one's due -/
def DU (s : Nat → Int32) (w : Nat) : Int32 := GR (WS s) (al (WS s)) (fun x => s (1 + x)) (tl (pX12_told s 0) * WS s / 10) (tl (pX12_told s 1) * WS s / 10) (nI 0) 0 (nn (s 0)) w
def M0 (s : Nat → Int32) (x : Nat) : Int32 := MK s x (chN s x)
def LM (s : Nat → Int32) (x : Nat) : Int32 := M0 s x + (MN (WS s) (al (WS s)) (M0 s) - MN (WS s) (TT s (chN s x)) (M0 s))
def LV (s : Nat → Int32) (w : Nat) : Int32 := TG s (LM s) (chN s w) w
section ALL
variable {s : Nat → Int32} {W C y : Nat} {F : gF} {h : Nat}
theorem tt_eq (hI : IV s W C y) (c : Nat) : TT s c = pT s W (nI c) := by
  funext w
  unfold TT
  rw [iv_W hI]
theorem TG_congr {m m' : Nat → Int32} {c w : Nat} (hm : ∀ x, TT s c x = true → m x = m' x) (hw : TT s c w = true) : TG s m c w = TG s m' c w := by
  unfold TG
  exact GR_congr hm hw
theorem r_gt (hI : IV s W C y) (hH : HR F h s) {c : Nat} (hc : c < C) (a12 a13 a15 : Nat → Int32) : ∃ b13 b15, pX12_gradesTeam s a12 a13 a15 (nI c) = some (b13, b15) ∧ ∀ w, b13 w = if TT s c w = true then TG s a12 c w else a13 w := by
  obtain ⟨hW, h10, hC, h4, hy, hy2, hV, hK⟩ := id hI
  obtain ⟨t0, ⟨t1, -, t2⟩, ⟨t3, -, t4⟩, -⟩ := hr_tl hH
  obtain ⟨v1, v2⟩ := iv_v hI hc
  obtain ⟨b13, b15, k1, k2⟩ := r_grades hW h10 hy (by omega) v1 (by omega) (show c < 4 by omega) t2 t4 t1 t3 a12 a13 a15
  refine ⟨b13, b15, k1, fun w => ?_⟩
  rw [k2 w]
  unfold TG
  rw [tt_eq hI c, iv_W hI, iv_y hI]
theorem r_gall2 (hI : IV s W C y) (hH : HR F h s) (hB : CHS F s C) {a13 a15 : Nat → Int32} : ∀ k n x : Nat, ∀ a10 a11 a12 : Nat → Int32, x + k = W → k < n → (∀ w, w < x → a12 w = M0 s w) → ∃ b10 b11 b12, pX12_gradesAll_2 s n a10 a11 a12 a13 a15 (nI x) = pX12_gradesAll_41 s 1000 b10 b11 b12 a13 a15 (nI 0) ∧ ∀ w, w < W → b12 w = M0 s w := by
  have hW := hI.1
  have h10 := hI.2.1
  intro k
  induction k with
  | zero =>
    intro n x a10 a11 a12 e hn ha
    obtain ⟨n, rfl⟩ : ∃ j, n = j + 1 := ⟨n - 1, by omega⟩
    have e2 : x = W := by omega
    subst e2
    refine ⟨a10, a11, a12, ?_, ha⟩
    simp (disch := omega) only [pX12_gradesAll_2, n_lit, nI_add, nI_1, n_cl, gck_in, gck_t, gck_T, ↓gnm_e, gbd_s, ↓reduceIte, n_leT, n_leF, n_ltT, n_ltF, n_eqT, n_eqF, Nat.add_zero, Nat.zero_add, hW]
  | succ k ih =>
    intro n x a10 a11 a12 e hn ha
    obtain ⟨n, rfl⟩ : ∃ j, n = j + 1 := ⟨n - 1, by omega⟩
    obtain ⟨c1, c2⟩ := iv_ch hI (show x < W by omega)
    obtain ⟨B, hB⟩ := hB _ c1
    obtain ⟨b10, b11, hm⟩ := (j_mark hI hH (show x < W by omega) c1 hB).1 a10 a11
    obtain ⟨d10, d11, d12, k1, k2⟩ := ih n (x + 1) b10 b11 (upd a12 x (MK s x (chN s x))) (by omega) (by omega) (fun w hw => by
      by_cases ew : w = x
      · subst ew; exact pk_us
      · rw [pk_un ew]; exact ha w (by omega))
    refine ⟨d10, d11, d12, ?_, k2⟩
    rw [← k1]
    have h4 := hI.2.2.2.1
    simp (disch := omega) only [pX12_gradesAll_2, n_lit, nI_add, nI_1, n_cl, gck_in, gck_t, gck_T, ↓gnm_e, gbd_s, ↓reduceIte, n_leT, n_leF, n_ltT, n_ltF, n_eqT, n_eqF, Nat.add_zero, Nat.zero_add, hW, c2, hm]
theorem r_gall41 (hI : IV s W C y) (hH : HR F h s) {a10 a11 a12 : Nat → Int32} (ha : ∀ w, w < W → a12 w = M0 s w) : ∀ k n c : Nat, ∀ a13 a15 : Nat → Int32, c + k = C → k < n → (∀ w, w < W → chN s w < c → a13 w = GS s w) → ∃ b13 b15, pX12_gradesAll_41 s n a10 a11 a12 a13 a15 (nI c) = some (a10, a11, a12, b13, b15) ∧ ∀ w, w < W → b13 w = GS s w := by
  have hC := hI.2.2.1
  have h4 := hI.2.2.2.1
  intro k
  induction k with
  | zero =>
    intro n c a13 a15 e hn hg
    obtain ⟨n, rfl⟩ : ∃ j, n = j + 1 := ⟨n - 1, by omega⟩
    have e2 : c = C := by omega
    subst e2
    refine ⟨a13, a15, ?_, fun w hw => hg w hw (iv_ch hI hw).1⟩
    simp (disch := omega) only [pX12_gradesAll_41, n_lit, nI_add, nI_1, n_cl, gck_in, gck_t, gck_T, ↓gnm_e, gbd_s, ↓reduceIte, n_leT, n_leF, n_ltT, n_ltF, n_eqT, n_eqF, Nat.add_zero, Nat.zero_add, hC]
  | succ k ih =>
    intro n c a13 a15 e hn hg
    obtain ⟨n, rfl⟩ : ∃ j, n = j + 1 := ⟨n - 1, by omega⟩
    obtain ⟨b13, b15, k1, k2⟩ := r_gt hI hH (show c < C by omega) a12 a13 a15
    obtain ⟨d13, d15, k3, k4⟩ := ih n (c + 1) b13 b15 (by omega) (by omega) (fun w hw hc => by
      rw [k2 w]
      by_cases q : TT s c w = true
      · rw [if_pos q]
        have qc := ((iv_T hI (show c < C by omega)).mp q).2
        unfold GS
        rw [qc]
        refine TG_congr (fun x hx => ?_) q
        have z := (iv_T hI (show c < C by omega)).mp hx
        rw [ha x z.1]; unfold M0; rw [z.2]
      · rw [if_neg q]
        refine hg w hw ?_
        have : chN s w ≠ c := fun z => q ((iv_T hI (show c < C by omega)).mpr ⟨hw, z⟩)
        omega)
    refine ⟨d13, d15, ?_, k4⟩
    rw [← k3]
    simp (disch := omega) only [pX12_gradesAll_41, n_lit, nI_add, nI_1, n_cl, gck_in, gck_t, gck_T, ↓gnm_e, gbd_s, ↓reduceIte, n_leT, n_leF, n_ltT, n_ltF, n_eqT, n_eqF, Nat.add_zero, Nat.zero_add, hC, k1]
theorem r_gall (hI : IV s W C y) (hH : HR F h s) (hB : CHS F s C) (a10 a11 a12 a13 a15 : Nat → Int32) : ∃ b10 b11 b12 b13 b15, pX12_gradesAll s a10 a11 a12 a13 a15 = some (b10, b11, b12, b13, b15) ∧ ∀ w, w < W → b13 w = GS s w := by
  have h10 := hI.2.1
  have h4 := hI.2.2.2.1
  obtain ⟨b10, b11, b12, k1, k2⟩ := r_gall2 (a13 := a13) (a15 := a15) hI hH hB W 1000 0 a10 a11 a12 (by omega) (by omega) (fun w hw => absurd hw (Nat.not_lt_zero _))
  obtain ⟨b13, b15, k3, k4⟩ := r_gall41 (a10 := b10) (a11 := b11) hI hH k2 C 1000 0 a13 a15 (by omega) (by omega) (fun w _ hc => absurd hc (Nat.not_lt_zero _))
  refine ⟨b10, b11, b12, b13, b15, ?_, k4⟩
  unfold pX12_gradesAll
  exact k1.trans k3
theorem c_chief {Cf : Nat → Option Nat} (h4 : C ≤ 4) {c b : Nat} (hc : c < C) (hb : Cf c = some b) : pX10_chiefAt_w0 (nI C) Cf (nI c) = some (some b) := by
  unfold pX10_chiefAt_w0
  simp (disch := omega) only [n_lit, nI_add, nI_1, n_cl, gck_in, gck_t, gck_T, ↓gnm_e, gbd_s, ↓reduceIte, n_leT, n_leF, n_ltT, n_ltF, n_eqT, n_eqF, Nat.add_zero, Nat.zero_add, hb]
theorem c_gall2 (hI : IV s W C y) (hH : HR F h s) {Cf : Nat → Option Nat} (hB : CFS F s C Cf) {A8 A9 A10 A11 : Nat → Int32} (hA : WA s W A8 A9 A10 A11) : ∀ k n c : Nat, ∀ (gs : Int32) (g0 g1 g2 g3 g5 : Nat → Int32), c + k = C → k < n → (∀ w, w < W → chN s w < c → g0 w = GS s w) → ∃ fs f0 f1 f2 f3 f5, pX1_gradeAll_w0_2 F (nI W) (nI C) (nI y) A8 A9 A10 A11 h Cf n gs g0 g1 g2 g3 g5 (nI c) = some (fs, f0, f1, f2, f3, f5) ∧ ∀ w, w < W → f0 w = GS s w := by
  have h4 := hI.2.2.2.1
  intro k
  induction k with
  | zero =>
    intro n c gs g0 g1 g2 g3 g5 e hn hg
    obtain ⟨n, rfl⟩ : ∃ j, n = j + 1 := ⟨n - 1, by omega⟩
    have e2 : c = C := by omega
    subst e2
    refine ⟨gs, g0, g1, g2, g3, g5, ?_, fun w hw => hg w hw (iv_ch hI hw).1⟩
    simp (disch := omega) only [pX1_gradeAll_w0_2, n_lit, nI_add, nI_1, n_cl, gck_in, gck_t, gck_T, ↓gnm_e, gbd_s, ↓reduceIte, n_leT, n_leF, n_ltT, n_ltF, n_eqT, n_eqF, Nat.add_zero, Nat.zero_add]
  | succ k ih =>
    intro n c gs g0 g1 g2 g3 g5 e hn hg
    obtain ⟨n, rfl⟩ : ∃ j, n = j + 1 := ⟨n - 1, by omega⟩
    obtain ⟨b, hb, hch⟩ := hB c (by omega)
    obtain ⟨fs, f0, f1, f2, f3, f5, k1, k2⟩ := c_gteam hI hH (show c < C by omega) hch hA gs g0 g1 g2 g3 g5
    obtain ⟨ds, d0, d1, d2, d3, d5, k3, k4⟩ := ih n (c + 1) fs f0 f1 f2 f3 f5 (by omega) (by omega) (fun w hw hc => by
      rw [k2 w]
      by_cases q : TT s c w = true
      · rw [if_pos q]
        have qc := ((iv_T hI (show c < C by omega)).mp q).2
        unfold GS
        rw [qc]
      · rw [if_neg q]
        refine hg w hw ?_
        have : chN s w ≠ c := fun z => q ((iv_T hI (show c < C by omega)).mpr ⟨hw, z⟩)
        omega)
    refine ⟨ds, d0, d1, d2, d3, d5, ?_, k4⟩
    rw [← k3]
    simp (disch := omega) only [pX1_gradeAll_w0_2, n_lit, nI_add, nI_1, n_cl, gck_in, gck_t, gck_T, ↓gnm_e, gbd_s, ↓reduceIte, n_leT, n_leF, n_ltT, n_ltF, n_eqT, n_eqF, Nat.add_zero, Nat.zero_add, c_chief h4 (show c < C by omega) hb, gmt_s, k1]
theorem c_gall (hI : IV s W C y) (hH : HR F h s) {Cf : Nat → Option Nat} (hB : CFS F s C Cf) {A8 A9 A10 A11 : Nat → Int32} (hA : WA s W A8 A9 A10 A11) (gs : Int32) (g0 g1 g2 g3 g5 : Nat → Int32) : ∃ fs f0 f1 f2 f3 f5, pX1_gradeAll_w0 F (nI W) (nI C) (nI y) A8 A9 A10 A11 h Cf gs g0 g1 g2 g3 g5 = some (fs, f0, f1, f2, f3, f5) ∧ ∀ w, w < W → f0 w = GS s w := by
  have h4 := hI.2.2.2.1
  unfold pX1_gradeAll_w0
  exact c_gall2 hI hH hB hA C 1000 0 gs g0 g1 g2 g3 g5 (by omega) (by omega) (fun w _ hc => absurd hc (Nat.not_lt_zero _))
theorem c_ghad (hI : IV s W C y) (hH : HR F h s) {Cf : Nat → Option Nat} (hB : CFS F s C Cf) {A8 A9 A10 A11 : Nat → Int32} (hA : WA s W A8 A9 A10 A11) (gs : Int32) (g0 g1 g2 g3 g5 : Nat → Int32) {w : Nat} (hw : w < W) : ∃ fs f0 f1 f2 f3 f5, pX1_gradeHad_w0 F (nI W) (nI C) (nI y) A8 A9 A10 A11 h Cf gs g0 g1 g2 g3 g5 (nI w) = some (GS s w, fs, f0, f1, f2, f3, f5) := by
  have h10 := hI.2.1
  have h4 := hI.2.2.2.1
  obtain ⟨c1, c2⟩ := iv_ch hI hw
  obtain ⟨b, hb, hch⟩ := hB _ c1
  obtain ⟨fs, f0, f1, f2, f3, f5, k1, k2⟩ := c_gteam hI hH c1 hch hA gs g0 g1 g2 g3 g5
  have k3 := k2 w
  rw [if_pos ((iv_T hI c1).mpr ⟨hw, rfl⟩)] at k3
  refine ⟨fs, f0, f1, f2, f3, f5, ?_⟩
  unfold pX1_gradeHad_w0 GS
  rw [← k3]
  simp (disch := omega) only [n_lit, nI_add, nI_1, n_cl, gck_in, gck_t, gck_T, ↓gnm_e, gbd_s, ↓reduceIte, n_leT, n_leF, n_ltT, n_ltF, n_eqT, n_eqF, Nat.add_zero, Nat.zero_add, c_has h10 hw, (hA w hw).2.2.1, c2, c_chief h4 c1 hb, gmt_s, k1]
/-! dues -/
theorem r_dues2 (hI : IV s W C y) : ∀ k n x : Nat, ∀ a12 a14 a15 : Nat → Int32, x + k = W → k < n → (∀ w, w < x → a12 w = s (1 + w) ∧ a14 w = gb (s (1 + w)) ∧ a15 w = nI 1) → ∃ b12 b14 b15, pX12_duesAll_2 s n a12 a14 a15 (nI x) = pX12_duesAll_55 s b12 b14 b15 ∧ ∀ w, w < W → b12 w = s (1 + w) ∧ b14 w = gb (s (1 + w)) ∧ b15 w = nI 1 := by
  have hW := hI.1
  have h10 := hI.2.1
  intro k
  induction k with
  | zero =>
    intro n x a12 a14 a15 e hn ha
    obtain ⟨n, rfl⟩ : ∃ j, n = j + 1 := ⟨n - 1, by omega⟩
    have e2 : x = W := by omega
    subst e2
    refine ⟨a12, a14, a15, ?_, ha⟩
    simp (disch := omega) only [pX12_duesAll_2, n_lit, nI_add, nI_1, n_cl, gck_in, gck_t, gck_T, ↓gnm_e, gbd_s, ↓reduceIte, n_leT, n_leF, n_ltT, n_ltF, n_eqT, n_eqF, Nat.add_zero, Nat.zero_add, hW]
  | succ k ih =>
    intro n x a12 a14 a15 e hn ha
    obtain ⟨n, rfl⟩ : ∃ j, n = j + 1 := ⟨n - 1, by omega⟩
    obtain ⟨d12, d14, d15, k1, k2⟩ := ih n (x + 1) (upd a12 x (s (1 + x))) (upd a14 x (gb (s (1 + x)))) (upd a15 x (nI 1)) (by omega) (by omega) (fun w hw => by
      by_cases ew : w = x
      · subst ew; exact ⟨pk_us, pk_us, pk_us⟩
      · rw [pk_un ew, pk_un ew, pk_un ew]; exact ha w (by omega))
    refine ⟨d12, d14, d15, ?_, k2⟩
    rw [← k1]
    simp (disch := omega) only [pX12_duesAll_2, n_lit, nI_add, nI_1, n_cl, gck_in, gck_t, gck_T, ↓gnm_e, gbd_s, ↓reduceIte, n_leT, n_leF, n_ltT, n_ltF, n_eqT, n_eqF, Nat.add_zero, Nat.zero_add, hW, vb_1, pk_us, gb_r]
theorem r_dues (hI : IV s W C y) (hH : HR F h s) (a12 a14 a15 : Nat → Int32) : ∃ b12 b14 b15, pX12_duesAll s a12 a14 a15 = some (b12, b14, b15) ∧ ∀ w, w < W → b14 w = DU s w := by
  have hW := hI.1
  have h10 := hI.2.1
  obtain ⟨t0, ⟨t1, -, t2⟩, ⟨t3, -, t4⟩, -⟩ := hr_tl hH
  obtain ⟨b12, b14, b15, k1, k2⟩ := r_dues2 hI W 1000 0 a12 a14 a15 (by omega) (by omega) (fun w hw => absurd hw (Nat.not_lt_zero _))
  have hIn : isIn W (al W) b15 := fun w hw => by rw [(k2 w hw).2.2, if_pos (al_t.mpr hw)]
  have hkn : kn (al W) W = W := kn_al (Nat.le_refl W)
  have hm1 : tl (pX12_told s 0) * W ≤ 99 * 10 := Nat.mul_le_mul t1 (by omega)
  have hm2 : tl (pX12_told s 1) * W ≤ 99 * 10 := Nat.mul_le_mul t3 (by omega)
  obtain ⟨d14, k3, k4⟩ := r_fives (a12 := b12) hW h10 hIn (f := tl (pX12_told s 0) * W / 10) (by omega) W 1000 0 b14 (by omega) (by omega) (fun w _ => rfl)
  obtain ⟨e14, k5, k6⟩ := r_ones (a12 := b12) hW h10 hIn (f := tl (pX12_told s 1) * W / 10) (by omega) W 1000 0 d14 (by omega) (by omega)
  have q1 := r_share hW h10 hIn t1
  have q2 := r_share hW h10 hIn t3
  rw [hkn] at q1 q2
  refine ⟨b12, e14, b15, ?_, fun w hw => ?_⟩
  · unfold pX12_duesAll
    refine k1.trans ?_
    unfold pX12_duesAll_55
    have k3' : pX12_givesFives_at14 s b12 b15 b14 (nI (tl (pX12_told s 0) * W / 10)) = some d14 := by rw [e14f]; unfold pX12_givesFives_at13; exact k3
    have k5' : pX12_givesOnes_at14 s b12 b15 d14 (nI (tl (pX12_told s 1) * W / 10)) = some e14 := by rw [e14o]; unfold pX12_givesOnes_at13; exact k5
    rw [t2, gbd_s, q1, gbd_s, k3', gbd_s, t4, gbd_s, q2, gbd_s, k5', gbd_s]
  · rw [k6 w, k4 w]
    have hwp := al_t.mpr hw
    have hpl : pl W (al W) b12 w = pl W (al W) (fun x => s (1 + x)) w := pl_congr (fun x hx => (k2 x (al_t.mp hx)).1) hwp
    unfold DU GR g5
    rw [lp_p (by decide) (by decide), iv_W hI, ← hpl, hkn]
    simp only [Nat.zero_le, true_and, hw, hwp, (k2 w hw).2.1]
    by_cases z : pl W (al W) b12 w < tl (pX12_told s 1) * W / 10
    · rw [if_pos z, if_pos z]
    · rw [if_neg z, if_neg z]
      by_cases z5 : gb (s (1 + w)) = nI 5
      · have z5' : gb (b12 w) = nI 5 := by rw [(k2 w hw).1]; exact z5
        have := ah_pl (m := b12) hwp hw z5'
        rw [hkn] at this
        rw [if_pos z5, if_pos z5]
        by_cases z6 : kn (ah (al W) b12 w) W < tl (pX12_told s 0) * W / 10
        · rw [if_pos z6, if_neg (by omega)]
        · rw [if_neg z6, if_pos (by omega)]
      · rw [if_neg z5, if_neg z5]
theorem c_due14 (hI : IV s W C y) {A8 : Nat → Int32} (hA : ∀ w, w < W → A8 w = s (1 + w)) {gs0 : Int32} {g0 g2 g3 : Nat → Int32} (hg : tm (al W) g2) : ∀ k n x : Nat, ∀ g1 : Nat → Int32, x + k = W → k < n → (∀ w, w < x → g1 w = s (1 + w)) → ∃ f1, pX1_gradeDue_w0_14 F (nI W) (nI y) A8 h n (nI W) g0 g1 g2 g3 (nI x) = (gbd (pX1_share_w0 F (nI y) h (nI W) f1 g2 g0 g3 (gpl F)) fun z_1 => some (nI W, z_1.2.1, f1, g2, z_1.2.2)) ∧ ∀ w, w < W → f1 w = s (1 + w) := by
  have h10 := hI.2.1
  intro k
  induction k with
  | zero =>
    intro n x g1 e hn ha
    obtain ⟨n, rfl⟩ : ∃ j, n = j + 1 := ⟨n - 1, by omega⟩
    have e2 : x = W := by omega
    subst e2
    refine ⟨g1, ?_, ha⟩
    simp (disch := omega) only [pX1_gradeDue_w0_14, n_lit, nI_add, nI_1, n_cl, gck_in, gck_t, gck_T, ↓gnm_e, gbd_s, ↓reduceIte, n_leT, n_leF, n_ltT, n_ltF, n_eqT, n_eqF, Nat.add_zero, Nat.zero_add]
  | succ k ih =>
    intro n x g1 e hn ha
    obtain ⟨n, rfl⟩ : ∃ j, n = j + 1 := ⟨n - 1, by omega⟩
    have hgx := hg x (al_t.mpr (by omega))
    rw [kn_al (by omega)] at hgx
    obtain ⟨f1, k1, k2⟩ := ih n (x + 1) (upd g1 x (s (1 + x))) (by omega) (by omega) (fun w hw => by
      by_cases ew : w = x
      · subst ew; exact pk_us
      · rw [pk_un ew]; exact ha w (by omega))
    refine ⟨f1, ?_, k2⟩
    rw [← k1]
    simp (disch := omega) only [pX1_gradeDue_w0_14, n_lit, nI_add, nI_1, n_cl, gck_in, gck_t, gck_T, ↓gnm_e, gbd_s, ↓reduceIte, n_leT, n_leF, n_ltT, n_ltF, n_eqT, n_eqF, Nat.add_zero, Nat.zero_add, hgx, hA x (show x < W by omega)]
theorem c_gat_all (h10 : W ≤ 10) (gs : Int32) (g : Nat → Int32) : ∃ f, pX1_gather gs g ((nI 1 <<< (nI W &&& nI 31)) - nI 1) = some (nI W, f) ∧ tm (al W) f := by
  obtain ⟨f, k1, k2⟩ := c_gather (p := al W) h10 (fun w hw => al_t.mp hw) gs g
  rw [kn_al (Nat.le_refl W)] at k1
  refine ⟨f, ?_, k2⟩
  rw [tb_all W h10]; exact k1
theorem c_dues (hI : IV s W C y) (hH : HR F h s) (hP : PLF F) {A8 : Nat → Int32} (hA : ∀ w, w < W → A8 w = s (1 + w)) (gs : Int32) (g0 g1 g2 g3 : Nat → Int32) : ∃ fs f0 f1 f2 f3, pX1_gradeDue_w0 F (nI W) (nI y) A8 h gs g0 g1 g2 g3 = some (fs, f0, f1, f2, f3) ∧ ∀ w, w < W → f0 w = DU s w := by
  have h10 := hI.2.1
  have hy2 := hI.2.2.2.2.2.1
  obtain ⟨t0, ⟨t1, t2, -⟩, ⟨t3, t4, -⟩, -⟩ := hr_tl hH
  obtain ⟨f2, k1, k2⟩ := c_gat_all h10 gs g2
  obtain ⟨f1, k3, k4⟩ := c_due14 (F := F) (h := h) (g0 := g0) (g3 := g3) (gs0 := gs) hI hA k2 W 1000 0 g1 (by omega) (by omega) (fun w hw => absurd hw (Nat.not_lt_zero _))
  have hkn : kn (al W) W = W := kn_al (Nat.le_refl W)
  obtain ⟨f0, f3, k5, k6⟩ := c_share (m := f1) (F := F) (b := gpl F) (v := 0) h10 (fun w hw => al_t.mp hw) k2 hP.1 (show y < 1000 by omega) (by omega) hP.2.2 t0 t2 t4 t1 t3 g0 g3
  rw [hkn] at k5 k6
  refine ⟨nI W, f0, f1, f2, f3, ?_, fun w hw => ?_⟩
  · unfold pX1_gradeDue_w0
    rw [n_lit, n_lit, k1, gbd_s]
    refine k3.trans ?_
    rw [k5, gbd_s]
  · rw [k6 w, if_pos (al_t.mpr hw)]
    unfold DU
    rw [iv_W hI, iv_y hI, ← hP.2.1]
    exact GR_congr (fun x hx => k4 x (al_t.mp hx)) (al_t.mpr hw)
end ALL
