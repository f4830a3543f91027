/-! PURE SIDE: a year -/
theorem gck_nF {α : Type} {x : Option α} [Decidable (¬ False)] : gck (¬ False) x = x := gck_t (fun z => z)
def yg (s : Nat → Int32) (way w : Nat) : Int32 := if way = 3 then DU s w else GS s w
def y1 (s : Nat → Int32) (way w : Nat) : Bool := decide (yg s way w = nI 1)
def yn (s : Nat → Int32) (W way : Nat) : Nat := kn (y1 s way) W
def yt (s : Nat → Int32) (W way : Nat) : Nat := if way = 1 then 0 else yn s W way
def yo (s : Nat → Int32) (W y way w : Nat) : Bool := if way = 2 then decide (ton (7 * y) W w < yn s W way) else (!decide (way = 1) && y1 s way w)
def yp (s : Nat → Int32) (py way w : Nat) : Int32 := if s (21 + w) + nI py * yg s way w ≤ nI 9999 then s (21 + w) + nI py * yg s way w else nI 9999
theorem yg_v (s : Nat → Int32) (way w : Nat) : ∃ g : Nat, 1 ≤ g ∧ g ≤ 5 ∧ yg s way w = nI g := by
  unfold yg; split
  · exact DU_v s w
  · exact GS_v s w
/-- t is s a year later -/
def YR (s : Nat → Int32) (W y py way : Nat) (t : Nat → Int32) : Prop := t 0 = nI (y + 1) ∧ (∀ w, w < 10 → t (1 + w) = (if w < W ∧ yo s W y way w = true then s 57 else s (1 + w)) ∧ t (11 + w) = (if w < W ∧ yo s W y way w = true then s 58 else s (11 + w)) ∧ t (21 + w) = (if w < W ∧ yo s W y way w = true then nI 0 else if w < W then yp s py way w else s (21 + w))) ∧ ∀ j, 31 ≤ j → t j = s j
section YEAR
variable {F : gF} {h : Nat} {s : Nat → Int32} {W C y : Nat}
theorem told2_ag {a1 : Nat → Int32} (hag : ∀ j, 31 ≤ j → a1 j = s j) (hv : s 56 = -nI 1 ∨ ∃ H, H < 5 ∧ s 56 = nI H) : pX12_told a1 2 = pX12_told s 2 := by
  unfold pX12_told; rw [if_neg (by decide), if_neg (by decide), if_pos rfl, if_neg (by decide), if_neg (by decide), if_pos rfl, n_lit, tells_ag (hag 56 (by omega)) (fun k hk => hag k (by omega)) hv 242 (by decide) (by decide)]
theorem r_y21 (hI : IV s W C y) {py way : Nat} (hw4 : way < 4) (hpy : pX12_told s 2 = some (nI py)) (hv : s 56 = -nI 1 ∨ ∃ H, H < 5 ∧ s 56 = nI H) {a10 a11 a12 a13 a14 a15 : Nat → Int32} (h13 : ∀ w, w < W → a13 w = GS s w) (h14 : ∀ w, w < W → a14 w = DU s w) : ∀ k n x : Nat, ∀ a1 : Nat → Int32, x + k = W → k < n → (∀ w, w < 10 → a1 (21 + w) = if w < x then yp s py way w else s (21 + w)) → (∀ j, (j < 21 ∨ 31 ≤ j) → a1 j = s j) → ∃ b1, pX12_yearGoes_21 n a1 a10 a11 a12 a13 a14 a15 (nI way) (nI W) (nI (kn (y1 s way) x)) (nI x) = pX12_yearGoes_132 1000 b1 a10 a11 a12 a13 a14 a15 (nI way) (nI W) (nI (yt s W way)) (nI 0) ∧ (∀ w, w < 10 → b1 (21 + w) = if w < W then yp s py way w else s (21 + w)) ∧ (∀ j, (j < 21 ∨ 31 ≤ j) → b1 j = s j) := by
  have h10 := hI.2.1
  intro k
  induction k with
  | zero =>
    intro n x a1 e hn hp hj
    obtain ⟨n, rfl⟩ : ∃ j, n = j + 1 := ⟨n - 1, by omega⟩
    have e2 : x = W := by omega
    subst e2
    refine ⟨a1, ?_, hp, hj⟩
    unfold yt yn
    by_cases w1 : way = 1
    · rw [if_pos w1]
      simp (disch := omega) only [pX12_yearGoes_21, n_lit, nI_add, nI_1, n_cl, gck_in, gck_t, gck_T, ↓gnm_e, gbd_s, ↓reduceIte, n_leT, n_leF, n_ltT, n_ltF, n_eqT, n_eqF, Nat.add_zero, Nat.zero_add]
    · rw [if_neg w1]
      simp (disch := omega) only [pX12_yearGoes_21, n_lit, nI_add, nI_1, n_cl, gck_in, gck_t, gck_T, ↓gnm_e, gbd_s, ↓reduceIte, n_leT, n_leF, n_ltT, n_ltF, n_eqT, n_eqF, Nat.add_zero, Nat.zero_add]
  | succ k ih =>
    intro n x a1 e hn hp hj
    obtain ⟨n, rfl⟩ : ∃ j, n = j + 1 := ⟨n - 1, by omega⟩
    have hxW : x < W := by omega
    have hax := hp x (by omega)
    rw [if_neg (Nat.lt_irrefl x)] at hax
    have ht : pX12_told a1 (nI 2) = some (nI py) := (told2_ag (fun j h => hj j (Or.inr h)) hv).trans hpy
    have hkx := kn_le (y1 s way) x
    have go : ∀ v : Int32, v = yp s py way x → ∃ b1, pX12_yearGoes_21 n (upd a1 (21 + x) v) a10 a11 a12 a13 a14 a15 (nI way) (nI W) (nI (kn (y1 s way) (x + 1))) (nI (x + 1)) = pX12_yearGoes_132 1000 b1 a10 a11 a12 a13 a14 a15 (nI way) (nI W) (nI (yt s W way)) (nI 0) ∧ (∀ w, w < 10 → b1 (21 + w) = if w < W then yp s py way w else s (21 + w)) ∧ (∀ j, (j < 21 ∨ 31 ≤ j) → b1 j = s j) := fun v hv => by
      refine ih n (x + 1) (upd a1 (21 + x) v) (by omega) (by omega) (fun w hw => ?_) (fun j hj2 => by rw [pk_un (by omega)]; exact hj j hj2)
      by_cases ew : w = x
      · subst ew; rw [pk_us, if_pos (by omega), hv]
      · rw [pk_un (by omega), hp w hw]
        by_cases z : w < x
        · rw [if_pos z, if_pos (by omega)]
        · rw [if_neg z, if_neg (by omega)]
    obtain ⟨b1, k1, k2, k3⟩ := go (yp s py way x) rfl
    refine ⟨b1, ?_, k2, k3⟩
    rw [← k1]
    have hy : yp s py way x = if s (21 + x) + nI py * yg s way x ≤ nI 9999 then s (21 + x) + nI py * yg s way x else nI 9999 := rfl
    have step : pX12_yearGoes_49 (pX12_yearGoes_21 n) a1 a10 a11 a12 a13 a14 a15 (nI way) (nI W) (nI (kn (y1 s way) x)) (nI x) (yg s way x) = pX12_yearGoes_21 n (upd a1 (21 + x) (yp s py way x)) a10 a11 a12 a13 a14 a15 (nI way) (nI W) (nI (kn (y1 s way) (x + 1))) (nI (x + 1)) := by
      rw [hy]
      by_cases z1 : yg s way x = nI 1
      · rw [kn_t (by unfold y1; simp [z1])]
        by_cases z2 : s (21 + x) + nI py * yg s way x ≤ nI 9999
        · rw [if_pos z2]
          rw [z1] at z2 ⊢
          simp (disch := omega) only [pX12_yearGoes_49, pX12_yearGoes_97, n_lit, nI_add, nI_1, n_cl, gck_in, gck_t, gck_T, ↓gnm_e, gbd_s, ↓reduceIte, n_leT, n_leF, n_ltT, n_ltF, n_eqT, n_eqF, Nat.add_zero, Nat.zero_add, ht, hax, z2]
        · rw [if_neg z2]
          rw [z1] at z2 ⊢
          simp (disch := omega) only [pX12_yearGoes_49, pX12_yearGoes_97, n_lit, nI_add, nI_1, n_cl, gck_in, gck_t, gck_T, ↓gnm_e, gbd_s, ↓reduceIte, n_leT, n_leF, n_ltT, n_ltF, n_eqT, n_eqF, Nat.add_zero, Nat.zero_add, ht, hax, z2]
      · rw [kn_f (by unfold y1; simp [z1])]
        by_cases z2 : s (21 + x) + nI py * yg s way x ≤ nI 9999
        · rw [if_pos z2]
          simp (disch := omega) only [pX12_yearGoes_49, pX12_yearGoes_97, n_lit, nI_add, nI_1, n_cl, gck_in, gck_t, gck_T, ↓gnm_e, gbd_s, ↓reduceIte, n_leT, n_leF, n_ltT, n_ltF, n_eqT, n_eqF, Nat.add_zero, Nat.zero_add, ht, hax, z1, z2]
        · rw [if_neg z2]
          simp (disch := omega) only [pX12_yearGoes_49, pX12_yearGoes_97, n_lit, nI_add, nI_1, n_cl, gck_in, gck_t, gck_T, ↓gnm_e, gbd_s, ↓reduceIte, n_leT, n_leF, n_ltT, n_ltF, n_eqT, n_eqF, Nat.add_zero, Nat.zero_add, ht, hax, z1, z2]
    rw [← step]
    by_cases w3 : way = 3
    · have hgx : a14 x = yg s way x := by unfold yg; rw [if_pos w3]; exact h14 x hxW
      simp (disch := omega) only [pX12_yearGoes_21, n_lit, nI_add, nI_1, n_cl, gck_in, gck_t, gck_T, ↓gnm_e, gbd_s, ↓reduceIte, n_leT, n_leF, n_ltT, n_ltF, n_eqT, n_eqF, Nat.add_zero, Nat.zero_add, hgx]
    · have hgx : a13 x = yg s way x := by unfold yg; rw [if_neg w3]; exact h13 x hxW
      simp (disch := omega) only [pX12_yearGoes_21, n_lit, nI_add, nI_1, n_cl, gck_in, gck_t, gck_T, ↓gnm_e, gbd_s, ↓reduceIte, n_leT, n_leF, n_ltT, n_ltF, n_eqT, n_eqF, Nat.add_zero, Nat.zero_add, hgx]
theorem r_newOne {a1 : Nat → Int32} {x : Nat} (hx : x < 10) : pX12_newOne a1 (nI x) = some (upd (upd (upd a1 (1 + x) (a1 57)) (11 + x) (a1 58)) (21 + x) (nI 0)) := by
  unfold pX12_newOne
  simp (disch := omega) only [n_lit, nI_add, nI_1, n_cl, gck_in, gck_t, gck_T, ↓gnm_e, gbd_s, ↓reduceIte, n_leT, n_leF, n_ltT, n_ltF, n_eqT, n_eqF, Nat.add_zero, Nat.zero_add, pk_un]
def YP (s : Nat → Int32) (W y py way x : Nat) (a1 : Nat → Int32) : Prop := (∀ w, w < 10 → a1 (1 + w) = (if w < x ∧ yo s W y way w = true then s 57 else s (1 + w)) ∧ a1 (11 + w) = (if w < x ∧ yo s W y way w = true then s 58 else s (11 + w)) ∧ a1 (21 + w) = (if w < x ∧ yo s W y way w = true then nI 0 else if w < W then yp s py way w else s (21 + w))) ∧ ∀ j, (j = 0 ∨ 31 ≤ j) → a1 j = s j
theorem YP_out {a1 : Nat → Int32} {py way x : Nat} (hx : x < 10) (h : YP s W y py way x a1) (ho : yo s W y way x = true) : YP s W y py way (x + 1) (upd (upd (upd a1 (1 + x) (a1 57)) (11 + x) (a1 58)) (21 + x) (nI 0)) := by
  obtain ⟨h1, h2⟩ := h
  refine ⟨fun w hw => ?_, fun j hj => by rw [pk_un (by omega), pk_un (by omega), pk_un (by omega)]; exact h2 j hj⟩
  obtain ⟨q1, q2, q3⟩ := h1 w hw
  by_cases e : w = x
  · subst e
    rw [if_pos ⟨by omega, ho⟩, if_pos ⟨by omega, ho⟩, if_pos ⟨by omega, ho⟩]
    refine ⟨?_, ?_, pk_us⟩
    · rw [pk_un (by omega), pk_un (by omega), pk_us]; exact h2 57 (by omega)
    · rw [pk_un (by omega), pk_us]; exact h2 58 (by omega)
  · have hc : (w < x + 1 ∧ yo s W y way w = true) ↔ (w < x ∧ yo s W y way w = true) := ⟨fun z => ⟨by omega, z.2⟩, fun z => ⟨by omega, z.2⟩⟩
    simp only [hc]
    refine ⟨?_, ?_, ?_⟩
    · rw [pk_un (by omega), pk_un (by omega), pk_un (by omega)]; exact q1
    · rw [pk_un (by omega), pk_un (by omega), pk_un (by omega)]; exact q2
    · rw [pk_un (by omega), pk_un (by omega), pk_un (by omega)]; exact q3
theorem YP_in {a1 : Nat → Int32} {py way x : Nat} (h : YP s W y py way x a1) (ho : ¬ yo s W y way x = true) : YP s W y py way (x + 1) a1 := by
  obtain ⟨h1, h2⟩ := h
  refine ⟨fun w hw => ?_, h2⟩
  have hc : (w < x + 1 ∧ yo s W y way w = true) ↔ (w < x ∧ yo s W y way w = true) := ⟨fun z => ⟨by
    by_cases e : w = x
    · subst e; exact absurd z.2 ho
    · omega, z.2⟩, fun z => ⟨by omega, z.2⟩⟩
  simp only [hc]
  exact h1 w hw
theorem r_y132 (hI : IV s W C y) {py way : Nat} (hw4 : way < 4) {a10 a11 a12 a13 a14 a15 : Nat → Int32} (h13 : ∀ w, w < W → a13 w = GS s w) (h14 : ∀ w, w < W → a14 w = DU s w) : ∀ k n x : Nat, ∀ a1 : Nat → Int32, x + k = W → k < n → YP s W y py way x a1 → ∃ t, pX12_yearGoes_132 n a1 a10 a11 a12 a13 a14 a15 (nI way) (nI W) (nI (yt s W way)) (nI x) = some (nI (yt s W way), t, a10, a11, a12, a13, a14, a15) ∧ YR s W y py way t := by
  obtain ⟨hW, h10, hC, h4, hy, hy2, hV, hK⟩ := id hI
  have hyt : yt s W way ≤ W := by unfold yt yn; split; omega; exact kn_le _ _
  intro k
  induction k with
  | zero =>
    intro n x a1 e hn hp
    obtain ⟨n, rfl⟩ : ∃ j, n = j + 1 := ⟨n - 1, by omega⟩
    have e2 : x = W := by omega
    subst e2
    have h0 : a1 0 = nI y := (hp.2 0 (Or.inl rfl)).trans hy
    refine ⟨upd a1 0 (nI (y + 1)), by simp (disch := omega) only [pX12_yearGoes_132, n_lit, nI_add, nI_1, n_cl, gck_in, gck_t, gck_T, ↓gnm_e, gbd_s, ↓reduceIte, n_leT, n_leF, n_ltT, n_ltF, n_eqT, n_eqF, Nat.add_zero, Nat.zero_add, h0], pk_us, fun w hw => ?_, fun j hj => by rw [pk_un (by omega)]; exact hp.2 j (Or.inr hj)⟩
    rw [pk_un (by omega), pk_un (by omega), pk_un (by omega)]
    exact hp.1 w hw
  | succ k ih =>
    intro n x a1 e hn hp
    obtain ⟨n, rfl⟩ : ∃ j, n = j + 1 := ⟨n - 1, by omega⟩
    have hxW : x < W := by omega
    have h0 : a1 0 = nI y := (hp.2 0 (Or.inl rfl)).trans hy
    have hno := r_newOne (a1 := a1) (show x < 10 by omega)
    have hton := ton_r (y := 7 * y) (n := W) (i := x) (by omega) (by omega) (by omega) (by omega)
    have hm : nI 7 * nI y = nI (7 * y) := pk_mul 7 y
    have htl := ton_lt (y := 7 * y) (n := W) (i := x) (by omega)
    have step : ∀ f : Int32, (f = nI 0 ∨ f = nI 1) → (way ≠ 2 → (f = nI 1 ↔ y1 s way x = true)) → pX12_yearGoes_178 (pX12_yearGoes_132 n) a1 a10 a11 a12 a13 a14 a15 (nI way) (nI W) (nI (yt s W way)) (nI x) f = if yo s W y way x = true then pX12_yearGoes_132 n (upd (upd (upd a1 (1 + x) (a1 57)) (11 + x) (a1 58)) (21 + x) (nI 0)) a10 a11 a12 a13 a14 a15 (nI way) (nI W) (nI (yt s W way)) (nI (x + 1)) else pX12_yearGoes_132 n a1 a10 a11 a12 a13 a14 a15 (nI way) (nI W) (nI (yt s W way)) (nI (x + 1)) := fun f hf hf2 => by
      by_cases w2 : way = 2
      · have ho : yo s W y way x = decide (ton (7 * y) W x < yt s W way) := by
          unfold yo yt; rw [if_pos w2, if_neg (by omega)]
        by_cases z : ton (7 * y) W x < yt s W way
        · rw [ho, if_pos (by simp [z])]
          simp (disch := omega) only [pX12_yearGoes_178, pX12_yearGoes_234, n_lit, nI_add, nI_1, n_cl, gck_in, gck_t, gck_T, ↓gnm_e, gbd_s, ↓reduceIte, n_leT, n_leF, n_ltT, n_ltF, n_eqT, n_eqF, Nat.add_zero, Nat.zero_add, gck_nF, h0, hm, hton, hno]
        · rw [ho, if_neg (by simp [z])]
          simp (disch := omega) only [pX12_yearGoes_178, pX12_yearGoes_234, n_lit, nI_add, nI_1, n_cl, gck_in, gck_t, gck_T, ↓gnm_e, gbd_s, ↓reduceIte, n_leT, n_leF, n_ltT, n_ltF, n_eqT, n_eqF, Nat.add_zero, Nat.zero_add, gck_nF, h0, hm, hton]
      · have ho : yo s W y way x = (!decide (way = 1) && y1 s way x) := by unfold yo; rw [if_neg w2]
        have hf3 := hf2 w2
        by_cases w1 : way = 1
        · rw [ho, if_neg (by simp [w1])]
          rcases hf with e | e <;> subst e <;> simp (disch := omega) only [pX12_yearGoes_178, pX12_yearGoes_234, n_lit, nI_add, nI_1, n_cl, gck_in, gck_t, gck_T, ↓gnm_e, gbd_s, ↓reduceIte, n_leT, n_leF, n_ltT, n_ltF, n_eqT, n_eqF, Nat.add_zero, Nat.zero_add, gck_nF, h0, hm, hton]
        · rcases hf with e | e
          · have z : ¬ y1 s way x = true := fun z => by rw [hf3.mpr z] at e; exact absurd e (by decide)
            rw [ho, if_neg (by simp [z])]
            subst e
            simp (disch := omega) only [pX12_yearGoes_178, pX12_yearGoes_234, n_lit, nI_add, nI_1, n_cl, gck_in, gck_t, gck_T, ↓gnm_e, gbd_s, ↓reduceIte, n_leT, n_leF, n_ltT, n_ltF, n_eqT, n_eqF, Nat.add_zero, Nat.zero_add, gck_nF, h0, hm, hton]
          · have z : y1 s way x = true := hf3.mp e
            rw [ho, if_pos (by simp [z, w1])]
            subst e
            simp (disch := omega) only [pX12_yearGoes_178, pX12_yearGoes_234, n_lit, nI_add, nI_1, n_cl, gck_in, gck_t, gck_T, ↓gnm_e, gbd_s, ↓reduceIte, n_leT, n_leF, n_ltT, n_ltF, n_eqT, n_eqF, Nat.add_zero, Nat.zero_add, gck_nF, h0, hm, hton, hno]
    have hall : pX12_yearGoes_132 (n + 1) a1 a10 a11 a12 a13 a14 a15 (nI way) (nI W) (nI (yt s W way)) (nI x) = if yo s W y way x = true then pX12_yearGoes_132 n (upd (upd (upd a1 (1 + x) (a1 57)) (11 + x) (a1 58)) (21 + x) (nI 0)) a10 a11 a12 a13 a14 a15 (nI way) (nI W) (nI (yt s W way)) (nI (x + 1)) else pX12_yearGoes_132 n a1 a10 a11 a12 a13 a14 a15 (nI way) (nI W) (nI (yt s W way)) (nI (x + 1)) := by
      by_cases w3 : way = 3
      · have hgx : a14 x = yg s way x := by unfold yg; rw [if_pos w3]; exact h14 x hxW
        by_cases z : yg s way x = nI 1
        · rw [← step (nI 1) (Or.inr rfl) (fun _ => by unfold y1; simp [z])]
          simp (disch := omega) only [pX12_yearGoes_132, n_lit, nI_add, nI_1, n_cl, gck_in, gck_t, gck_T, ↓gnm_e, gbd_s, ↓reduceIte, n_leT, n_leF, n_ltT, n_ltF, n_eqT, n_eqF, Nat.add_zero, Nat.zero_add, hgx, z]
        · rw [← step (nI 0) (Or.inl rfl) (fun _ => by unfold y1; simp [z, show ¬ nI 0 = nI 1 from by decide])]
          simp (disch := omega) only [pX12_yearGoes_132, n_lit, nI_add, nI_1, n_cl, gck_in, gck_t, gck_T, ↓gnm_e, gbd_s, ↓reduceIte, n_leT, n_leF, n_ltT, n_ltF, n_eqT, n_eqF, Nat.add_zero, Nat.zero_add, hgx, z]
      · have hgx : a13 x = yg s way x := by unfold yg; rw [if_neg w3]; exact h13 x hxW
        by_cases z : yg s way x = nI 1
        · rw [← step (nI 1) (Or.inr rfl) (fun _ => by unfold y1; simp [z])]
          simp (disch := omega) only [pX12_yearGoes_132, n_lit, nI_add, nI_1, n_cl, gck_in, gck_t, gck_T, ↓gnm_e, gbd_s, ↓reduceIte, n_leT, n_leF, n_ltT, n_ltF, n_eqT, n_eqF, Nat.add_zero, Nat.zero_add, hgx, z]
        · rw [← step (nI 0) (Or.inl rfl) (fun _ => by unfold y1; simp [z, show ¬ nI 0 = nI 1 from by decide])]
          simp (disch := omega) only [pX12_yearGoes_132, n_lit, nI_add, nI_1, n_cl, gck_in, gck_t, gck_T, ↓gnm_e, gbd_s, ↓reduceIte, n_leT, n_leF, n_ltT, n_ltF, n_eqT, n_eqF, Nat.add_zero, Nat.zero_add, hgx, z]
    rw [hall]
    by_cases ho : yo s W y way x = true
    · rw [if_pos ho]
      exact ih n (x + 1) _ (by omega) (by omega) (YP_out (by omega) hp ho)
    · rw [if_neg ho]
      exact ih n (x + 1) _ (by omega) (by omega) (YP_in hp ho)
/-- A YEAR: the reference -/
theorem r_year (hI : IV s W C y) (hH : HR F h s) (hB : CHS F s C) (hv : s 56 = -nI 1 ∨ ∃ H, H < 5 ∧ s 56 = nI H) {way : Nat} (hw4 : way < 4) (a10 a11 a12 a13 a14 a15 : Nat → Int32) : ∃ t r', pX12_yearGoes s a10 a11 a12 a13 a14 a15 (nI way) = some (nI (yt s W way), t, r') ∧ YR s W y (tl (pX12_told s 2)) way t := by
  have hW := hI.1
  have h10 := hI.2.1
  obtain ⟨-, -, -, -, -, hpy⟩ := hr_tl hH
  obtain ⟨b12, b14, b15, k1, k2⟩ := r_dues hI hH a12 a14 a15
  obtain ⟨c10, c11, c12, c13, c15, k3, k4⟩ := r_gall hI hH hB a10 a11 b12 a13 b15
  obtain ⟨b1, k5, k6, k7⟩ := r_y21 (a10 := c10) (a11 := c11) (a12 := c12) (a15 := c15) hI hw4 hpy hv k4 k2 W 1000 0 s (by omega) (by omega) (fun w hw => by rw [if_neg (Nat.not_lt_zero _)]) (fun j hj => rfl)
  obtain ⟨t, k8, k9⟩ := r_y132 (py := tl (pX12_told s 2)) (a10 := c10) (a11 := c11) (a12 := c12) (a15 := c15) hI hw4 k4 k2 W 1000 0 b1 (by omega) (by omega) ⟨fun w hw => by
    rw [if_neg (fun z => Nat.not_lt_zero _ z.1), if_neg (fun z => Nat.not_lt_zero _ z.1), if_neg (fun z => Nat.not_lt_zero _ z.1)]
    exact ⟨k7 _ (by omega), k7 _ (by omega), k6 w hw⟩, fun j hj => k7 j (by omega)⟩
  refine ⟨t, (c10, c11, c12, c13, b14, c15), ?_, k9⟩
  unfold pX12_yearGoes
  simp (disch := omega) only [n_lit, nI_add, nI_1, n_cl, gck_in, gck_t, gck_T, ↓gnm_e, gbd_s, ↓reduceIte, n_leT, n_leF, n_ltT, n_ltF, n_eqT, n_eqF, Nat.add_zero, Nat.zero_add, k1, k3, hW]
  exact k5.trans k8
end YEAR
