/-! PURE SIDE: reading a house, both parsers side by side; written by wip/whole/mach/parse.py -/
/-- the steps so far, on both sides; d answers are piled -/
def SS (act n d : Nat) (a1 a7 a8 a9 : Nat → Int32) : Prop := a1 (247 + act) = nI n ∧ ∃ D : Nat → Nat, D 0 = 0 ∧ D n = d ∧ (∀ i, i ≤ n → D i ≤ 29) ∧ ∀ i, i < n → sr (a1 (252 + 140 * act + i)) (a7 i) (a8 i) (a9 i) (D i) (D (i + 1))
def FRM (act : Nat) (a1 b1 : Nat → Int32) : Prop := ∀ j, j ≠ 247 + act → (j < 252 + 140 * act ∨ 352 + 140 * act ≤ j) → b1 j = a1 j
theorem frm_rf {act : Nat} {a1 : Nat → Int32} : FRM act a1 a1 := fun _ _ _ => rfl
theorem frm_tr {act : Nat} {a b c : Nat → Int32} (h : FRM act a b) (k : FRM act b c) : FRM act a c := fun j h1 h2 => (k j h1 h2).trans (h j h1 h2)
theorem frm_tp {act T : Nat} {tp : Nat → Nat} {a1 b1 : Nat → Int32} (h : FRM act a1 b1) (ht : TPR a1 tp T) : TPR b1 tp T := ⟨ht.1, fun j hj => by
  have h1 := ht.1
  exact ⟨(h (132 + j) (by omega) (by omega)).trans (ht.2 j hj).1, (ht.2 j hj).2⟩⟩
/-- what a piece of reading gives -/
def POUT (act T p n d : Nat) (a1 : Nat → Int32) (w : Bool) (R : Option ((Nat → Int32) × Int32 × Int32 × Int32)) (Q : Option ((Nat → Int32) × (Nat → Int32) × (Nat → Int32) × Int32 × Int32 × Int32)) (op : Int32) : Prop := ∃ (b1 b7 b8 b9 : Nat → Int32) (p' n' : Nat) (w' : Bool), R = some (b1, nI p', ib w', op) ∧ Q = some (b7, b8, b9, nI p', ib w', nI n') ∧ p ≤ p' ∧ p' ≤ T ∧ FRM act a1 b1 ∧ (w' = false → w = false ∧ n' + p ≤ n + p' ∧ SS act n' d b1 b7 b8 b9)
def FK (tp : Nat → Nat) (T act : Nat) (a3 : Nat → Int32) (kR : (Int32 → Int32 → (Nat → Int32) → Int32 → Int32 → Int32 → Option ((Nat → Int32) × Int32 × Int32 × Int32))) (kC : ((Nat → Int32) → Int32 → (Nat → Int32) → (Nat → Int32) → (Nat → Int32) → Int32 → Int32 → Int32 → Int32 → Option ((Nat → Int32) × (Nat → Int32) × (Nat → Int32) × Int32 × Int32 × Int32))) (o x : Nat) : Prop := ∀ (a1 a7 a8 a9 : Nat → Int32) (p n d : Nat) (w : Bool), TPR a1 tp T → p ≤ T → (w = false → n ≤ p ∧ d + x + 2 * (5 - o) + 1 ≤ 29 ∧ SS act n d a1 a7 a8 a9) → POUT act T p n (d + 1) a1 w (kR (nI act) (nI T) a1 (nI p) (ib w) (nI o)) (kC a3 (nI T) a7 a8 a9 (nI p) (ib w) (nI n) (nI o)) (nI o)
section PS
variable {tp : Nat → Nat} {T act : Nat} {a3 : Nat → Int32}
theorem e_emit (ha : act ≤ 4) (hT : T ≤ 100) {n d d' : Nat} {a1 a7 a8 a9 : Nat → Int32} {v a b c : Int32} (w : Bool) (hw : w = false → n < T ∧ SS act n d a1 a7 a8 a9 ∧ d' ≤ 29 ∧ sr v a b c d d') : ∃ b1 b7 b8 b9 n', pX12_emits (nI act) (ib w) a1 v = some b1 ∧ pX2_add T (nI T) (ib w) a7 a8 a9 (nI n) a b c = some (b7, b8, b9, nI n') ∧ FRM act a1 b1 ∧ (w = false → n' = n + 1 ∧ SS act (n + 1) d' b1 b7 b8 b9) := by
  cases w with
  | true => exact ⟨a1, a7, a8, a9, n, by unfold pX12_emits; rw [if_neg (by decide)], by unfold pX2_add; rw [if_neg (by decide)], frm_rf, fun z => by cases z⟩
  | false =>
    obtain ⟨hn, ⟨h1, D, hD0, hDn, hD, hst⟩, hd', hsr⟩ := hw rfl
    have e0 : ib false = (0 : Int32) := rfl
    refine ⟨upd (upd a1 (252 + 140 * act + n) v) (247 + act) (nI (n + 1)), upd a7 n a, upd a8 n b, upd a9 n c, n + 1, ?_, ?_, ?_, fun _ => ⟨rfl, pk_us, fun i => if i ≤ n then D i else d', ?_, ?_, ?_, ?_⟩⟩
    · unfold pX12_emits
      rw [if_pos e0]
      simp (disch := omega) only [n_lit, nI_add, nI_1, n_cl, gck_in, gck_t, gck_T, ↓gnm_e, gbd_s, ↓reduceIte, n_leT, n_leF, n_ltT, n_ltF, n_eqT, n_eqF, Nat.add_zero, Nat.zero_add, pk_mul, h1, pk_un]
    · unfold pX2_add
      rw [if_pos e0]
      simp (disch := omega) only [n_lit, nI_add, nI_1, n_cl, gck_in, gck_t, gck_T, ↓gnm_e, gbd_s, ↓reduceIte, n_leT, n_leF, n_ltT, n_ltF, n_eqT, n_eqF, Nat.add_zero, Nat.zero_add]
    · intro j h2 h3
      rw [pk_un h2, pk_un (by omega)]
    · simp only [Nat.zero_le, if_true, hD0]
    · simp only [show ¬ n + 1 ≤ n from by omega, if_false]
    · intro i hi
      show (if i ≤ n then D i else d') ≤ 29
      split
      · exact hD i (by omega)
      · exact hd'
    · intro i hi
      show sr _ _ _ _ (if i ≤ n then D i else d') (if i + 1 ≤ n then D (i + 1) else d')
      rw [pk_un (show 252 + 140 * act + i ≠ 247 + act by omega), if_pos (show i ≤ n by omega)]
      by_cases e : i = n
      · subst e
        rw [pk_us, pk_us, pk_us, pk_us, if_neg (by omega), hDn]
        exact hsr
      · rw [pk_un (by omega), pk_un e, pk_un e, pk_un e, if_pos (by omega)]
        exact hst i (by omega)

theorem st_ev {kR : (Int32 → Int32 → (Nat → Int32) → Int32 → Int32 → Int32 → Option ((Nat → Int32) × Int32 × Int32 × Int32))} {kC : ((Nat → Int32) → Int32 → (Nat → Int32) → (Nat → Int32) → (Nat → Int32) → Int32 → Int32 → Int32 → Int32 → Option ((Nat → Int32) × (Nat → Int32) × (Nat → Int32) × Int32 × Int32 × Int32))} {o m m' i n p : Nat} {a1 a7 a8 a9 : Nat → Int32} (hTP : TPR a1 tp T) (h3 : ∀ j, j < T → a3 j = nI (tp j)) (hp : p ≤ T) (w : Bool) (hi : i ≤ 1000) (hst : ¬ (w = false ∧ p < T ∧ tp p = 38)) : pX12_every_4 kR (nI act) (nI T) (m + 1) a1 (nI p) (ib w) (nI o) = some (a1, nI p, ib w, nI o) ∧ pX2_readBoth_7 T kC a3 (nI T) (m' + 1) a7 a8 a9 (nI p) (ib w) (nI n) (nI o) (nI i) = some (a7, a8, a9, nI p, ib w, nI n) := by
  have hT := hTP.1
  have hs := c_sign (N := T) hTP h3 hp w
  have hh := r_here hTP hp
  constructor
  · rw [pX12_every_4]
    cases w with
    | true => rw [if_neg (by decide)]
    | false =>
      rw [if_pos (show ib false = (0 : Int32) from rfl), hh, gbd_s]
      by_cases z : p < T
      · have hb := (hTP.2 p z).2
        rw [if_pos z, if_neg (by rw [n_lit, n_eq (by omega) (by omega)]; exact fun q => hst ⟨rfl, z, q⟩)]
      · rw [if_neg z, if_neg (by decide)]
  · rw [pX2_readBoth_7]
    by_cases q : T ≤ i
    · rw [if_pos (by rw [n_le (by omega) (by omega)]; exact q)]
    · rw [if_neg (by rw [n_le (by omega) (by omega)]; exact q), hs, gbd_s]
      by_cases z : w = false ∧ p < T
      · have hb := (hTP.2 p z.2).2
        rw [if_pos z, if_neg (by rw [n_lit, n_eq (by omega) (by omega)]; exact fun y => hst ⟨z.1, z.2, y⟩)]
      · rw [if_neg z, if_neg (by decide)]
theorem lp_ev (ha : act ≤ 4) (h3 : ∀ j, j < T → a3 j = nI (tp j)) {kR : (Int32 → Int32 → (Nat → Int32) → Int32 → Int32 → Int32 → Option ((Nat → Int32) × Int32 × Int32 × Int32))} {kC : ((Nat → Int32) → Int32 → (Nat → Int32) → (Nat → Int32) → (Nat → Int32) → Int32 → Int32 → Int32 → Int32 → Option ((Nat → Int32) × (Nat → Int32) × (Nat → Int32) × Int32 × Int32 × Int32))} {o : Nat} (hk : FK tp T act a3 kR kC o 0) : ∀ (k m m' : Nat) (a1 a7 a8 a9 : Nat → Int32) (p n d i : Nat) (w : Bool), T ≤ p + k → k < m → k < m' → i ≤ p → p ≤ T → TPR a1 tp T → (w = false → n ≤ p ∧ d + (0 + 1) + 2 * (5 - o) + 1 ≤ 29 ∧ SS act n (d + 1) a1 a7 a8 a9) → POUT act T p n (d + 1) a1 w (pX12_every_4 kR (nI act) (nI T) m a1 (nI p) (ib w) (nI o)) (pX2_readBoth_7 T kC a3 (nI T) m' a7 a8 a9 (nI p) (ib w) (nI n) (nI o) (nI i)) (nI o) := by
  intro k
  induction k with
  | zero =>
    intro m m' a1 a7 a8 a9 p n d i w hk1 hm hm' hi hp hTP hw
    obtain ⟨m, rfl⟩ : ∃ j, m = j + 1 := ⟨m - 1, by omega⟩
    obtain ⟨m', rfl⟩ : ∃ j, m' = j + 1 := ⟨m' - 1, by omega⟩
    have hT := hTP.1
    obtain ⟨e1, e2⟩ := st_ev (act := act) (kR := kR) (kC := kC) (o := o) (m := m) (m' := m') (i := i) (n := n) (a7 := a7) (a8 := a8) (a9 := a9) hTP h3 hp w (by omega) (fun z => by omega)
    exact ⟨a1, a7, a8, a9, p, n, w, e1, e2, Nat.le_refl _, hp, frm_rf, fun z => ⟨z, Nat.le_refl _, (hw z).2.2⟩⟩
  | succ k ih =>
    intro m m' a1 a7 a8 a9 p n d i w hk1 hm hm' hi hp hTP hw
    obtain ⟨m, rfl⟩ : ∃ j, m = j + 1 := ⟨m - 1, by omega⟩
    obtain ⟨m', rfl⟩ : ∃ j, m' = j + 1 := ⟨m' - 1, by omega⟩
    have hT := hTP.1
    by_cases hst : w = false ∧ p < T ∧ tp p = 38
    · obtain ⟨rfl, hpT, hc⟩ := hst
      obtain ⟨hnp, hdd, hSS⟩ := hw rfl
      obtain ⟨b1, b7, b8, b9, p2, n2, w2, e1, e2, hp2, hpT2, hf, hs⟩ := hk a1 a7 a8 a9 (p + 1) n (d + 1) false hTP (by omega) (fun _ => ⟨by omega, by omega, hSS⟩)
      obtain ⟨c1, c7, c8, c9, n3, k1, k2, kf, ks⟩ := e_emit (act := act) (T := T) (v := -2) (a := -2) (b := 0) (c := 0) (d := d + 2) (d' := d + 1) (n := n2) (a1 := b1) (a7 := b7) (a8 := b8) (a9 := b9) ha hT w2 (fun z => by
        obtain ⟨-, q1, q2⟩ := hs z
        exact ⟨by omega, q2, by omega, Or.inr (Or.inr (Or.inl ⟨by decide, by decide, by omega, by omega⟩))⟩)
      obtain ⟨f1, f7, f8, f9, p4, n4, w4, g1, g2, gp, gT, gf, gs⟩ := ih m m' c1 c7 c8 c9 p2 n3 d (i + 1) w2 (by omega) (by omega) (by omega) (by omega) hpT2 (frm_tp (frm_tr hf kf) hTP) (fun z => by
        obtain ⟨-, q1, -⟩ := hs z
        obtain ⟨q2, q3⟩ := ks z
        subst q2
        exact ⟨by omega, hdd, q3⟩)
      refine ⟨f1, f7, f8, f9, p4, n4, w4, ?_, ?_, by omega, gT, frm_tr (frm_tr hf kf) gf, fun z => ?_⟩
      · rw [pX12_every_4, if_pos (show ib false = (0 : Int32) from rfl), r_here hTP hp, gbd_s, if_pos hpT, if_pos (by rw [hc]; rfl), nI_1, e1, gbd_s, k1, gbd_s]
        exact g1
      · have hs0 := c_sign (N := T) hTP h3 hp false
        rw [if_pos ⟨rfl, hpT⟩] at hs0
        rw [pX2_readBoth_7, if_neg (by rw [n_le (by omega) (by omega)]; omega), hs0, gbd_s, if_pos (by rw [hc]; rfl), nI_1, e2, gbd_s, k2, gbd_s, nI_1]
        exact g2
      · obtain ⟨q1, q2, q3⟩ := gs z
        obtain ⟨-, r1, -⟩ := hs q1
        obtain ⟨r2, -⟩ := ks q1
        exact ⟨rfl, by omega, q3⟩
    · obtain ⟨e1, e2⟩ := st_ev (act := act) (kR := kR) (kC := kC) (o := o) (m := m) (m' := m') (i := i) (n := n) (a7 := a7) (a8 := a8) (a9 := a9) hTP h3 hp w (by omega) hst
      exact ⟨a1, a7, a8, a9, p, n, w, e1, e2, Nat.le_refl _, hp, frm_rf, fun z => ⟨z, Nat.le_refl _, (hw z).2.2⟩⟩

theorem fk_ev (ha : act ≤ 4) (h3 : ∀ j, j < T → a3 j = nI (tp j)) {kR : (Int32 → Int32 → (Nat → Int32) → Int32 → Int32 → Int32 → Option ((Nat → Int32) × Int32 × Int32 × Int32))} {kC : ((Nat → Int32) → Int32 → (Nat → Int32) → (Nat → Int32) → (Nat → Int32) → Int32 → Int32 → Int32 → Int32 → Option ((Nat → Int32) × (Nat → Int32) × (Nat → Int32) × Int32 × Int32 × Int32))} {o : Nat} (hk : FK tp T act a3 kR kC o 0) : FK tp T act a3 (pX12_every kR) (pX2_readBoth T kC) o (0 + 1) := by
  intro a1 a7 a8 a9 p n d w hTP hp hw
  have hT := hTP.1
  obtain ⟨b1, b7, b8, b9, p2, n2, w2, e1, e2, hp2, hpT2, hf, hs⟩ := hk a1 a7 a8 a9 p n d w hTP hp (fun z => by
    obtain ⟨q1, q2, q3⟩ := hw z
    exact ⟨q1, by omega, q3⟩)
  obtain ⟨f1, f7, f8, f9, p4, n4, w4, g1, g2, gp, gT, gf, gs⟩ := lp_ev ha h3 hk 200 1000 1000 b1 b7 b8 b9 p2 n2 d 0 w2 (by omega) (by omega) (by omega) (Nat.zero_le _) hpT2 (frm_tp hf hTP) (fun z => by
    obtain ⟨q0, q1, q2⟩ := hs z
    obtain ⟨r1, r2, -⟩ := hw q0
    exact ⟨by omega, r2, q2⟩)
  refine ⟨f1, f7, f8, f9, p4, n4, w4, ?_, ?_, by omega, gT, frm_tr hf gf, fun z => ?_⟩
  · unfold pX12_every
    rw [e1, gbd_s]; exact g1
  · unfold pX2_readBoth
    rw [e2, gbd_s]; exact g2
  · obtain ⟨q1, q2, q3⟩ := gs z
    obtain ⟨q4, q5, -⟩ := hs q1
    exact ⟨q4, by omega, q3⟩

theorem st_so {kR : (Int32 → Int32 → (Nat → Int32) → Int32 → Int32 → Int32 → Option ((Nat → Int32) × Int32 × Int32 × Int32))} {kC : ((Nat → Int32) → Int32 → (Nat → Int32) → (Nat → Int32) → (Nat → Int32) → Int32 → Int32 → Int32 → Int32 → Option ((Nat → Int32) × (Nat → Int32) × (Nat → Int32) × Int32 × Int32 × Int32))} {o m m' i n p : Nat} {a1 a7 a8 a9 : Nat → Int32} (hTP : TPR a1 tp T) (h3 : ∀ j, j < T → a3 j = nI (tp j)) (hp : p ≤ T) (w : Bool) (hi : i ≤ 1000) (hst : ¬ (w = false ∧ p < T ∧ tp p = 124)) : pX12_some_4 kR (nI act) (nI T) (m + 1) a1 (nI p) (ib w) (nI o) = some (a1, nI p, ib w, nI o) ∧ pX2_readEither_7 T kC a3 (nI T) (m' + 1) a7 a8 a9 (nI p) (ib w) (nI n) (nI o) (nI i) = some (a7, a8, a9, nI p, ib w, nI n) := by
  have hT := hTP.1
  have hs := c_sign (N := T) hTP h3 hp w
  have hh := r_here hTP hp
  constructor
  · rw [pX12_some_4]
    cases w with
    | true => rw [if_neg (by decide)]
    | false =>
      rw [if_pos (show ib false = (0 : Int32) from rfl), hh, gbd_s]
      by_cases z : p < T
      · have hb := (hTP.2 p z).2
        rw [if_pos z, if_neg (by rw [n_lit, n_eq (by omega) (by omega)]; exact fun q => hst ⟨rfl, z, q⟩)]
      · rw [if_neg z, if_neg (by decide)]
  · rw [pX2_readEither_7]
    by_cases q : T ≤ i
    · rw [if_pos (by rw [n_le (by omega) (by omega)]; exact q)]
    · rw [if_neg (by rw [n_le (by omega) (by omega)]; exact q), hs, gbd_s]
      by_cases z : w = false ∧ p < T
      · have hb := (hTP.2 p z.2).2
        rw [if_pos z, if_neg (by rw [n_lit, n_eq (by omega) (by omega)]; exact fun y => hst ⟨z.1, z.2, y⟩)]
      · rw [if_neg z, if_neg (by decide)]
theorem lp_so (ha : act ≤ 4) (h3 : ∀ j, j < T → a3 j = nI (tp j)) {kR : (Int32 → Int32 → (Nat → Int32) → Int32 → Int32 → Int32 → Option ((Nat → Int32) × Int32 × Int32 × Int32))} {kC : ((Nat → Int32) → Int32 → (Nat → Int32) → (Nat → Int32) → (Nat → Int32) → Int32 → Int32 → Int32 → Int32 → Option ((Nat → Int32) × (Nat → Int32) × (Nat → Int32) × Int32 × Int32 × Int32))} {o : Nat} (hk : FK tp T act a3 (pX12_every kR) (pX2_readBoth T kC) o 1) : ∀ (k m m' : Nat) (a1 a7 a8 a9 : Nat → Int32) (p n d i : Nat) (w : Bool), T ≤ p + k → k < m → k < m' → i ≤ p → p ≤ T → TPR a1 tp T → (w = false → n ≤ p ∧ d + (1 + 1) + 2 * (5 - o) + 1 ≤ 29 ∧ SS act n (d + 1) a1 a7 a8 a9) → POUT act T p n (d + 1) a1 w (pX12_some_4 kR (nI act) (nI T) m a1 (nI p) (ib w) (nI o)) (pX2_readEither_7 T kC a3 (nI T) m' a7 a8 a9 (nI p) (ib w) (nI n) (nI o) (nI i)) (nI o) := by
  intro k
  induction k with
  | zero =>
    intro m m' a1 a7 a8 a9 p n d i w hk1 hm hm' hi hp hTP hw
    obtain ⟨m, rfl⟩ : ∃ j, m = j + 1 := ⟨m - 1, by omega⟩
    obtain ⟨m', rfl⟩ : ∃ j, m' = j + 1 := ⟨m' - 1, by omega⟩
    have hT := hTP.1
    obtain ⟨e1, e2⟩ := st_so (act := act) (kR := kR) (kC := kC) (o := o) (m := m) (m' := m') (i := i) (n := n) (a7 := a7) (a8 := a8) (a9 := a9) hTP h3 hp w (by omega) (fun z => by omega)
    exact ⟨a1, a7, a8, a9, p, n, w, e1, e2, Nat.le_refl _, hp, frm_rf, fun z => ⟨z, Nat.le_refl _, (hw z).2.2⟩⟩
  | succ k ih =>
    intro m m' a1 a7 a8 a9 p n d i w hk1 hm hm' hi hp hTP hw
    obtain ⟨m, rfl⟩ : ∃ j, m = j + 1 := ⟨m - 1, by omega⟩
    obtain ⟨m', rfl⟩ : ∃ j, m' = j + 1 := ⟨m' - 1, by omega⟩
    have hT := hTP.1
    by_cases hst : w = false ∧ p < T ∧ tp p = 124
    · obtain ⟨rfl, hpT, hc⟩ := hst
      obtain ⟨hnp, hdd, hSS⟩ := hw rfl
      obtain ⟨b1, b7, b8, b9, p2, n2, w2, e1, e2, hp2, hpT2, hf, hs⟩ := hk a1 a7 a8 a9 (p + 1) n (d + 1) false hTP (by omega) (fun _ => ⟨by omega, by omega, hSS⟩)
      obtain ⟨c1, c7, c8, c9, n3, k1, k2, kf, ks⟩ := e_emit (act := act) (T := T) (v := -3) (a := -3) (b := 0) (c := 0) (d := d + 2) (d' := d + 1) (n := n2) (a1 := b1) (a7 := b7) (a8 := b8) (a9 := b9) ha hT w2 (fun z => by
        obtain ⟨-, q1, q2⟩ := hs z
        exact ⟨by omega, q2, by omega, Or.inr (Or.inr (Or.inr (Or.inl ⟨by decide, by decide, by omega, by omega⟩)))⟩)
      obtain ⟨f1, f7, f8, f9, p4, n4, w4, g1, g2, gp, gT, gf, gs⟩ := ih m m' c1 c7 c8 c9 p2 n3 d (i + 1) w2 (by omega) (by omega) (by omega) (by omega) hpT2 (frm_tp (frm_tr hf kf) hTP) (fun z => by
        obtain ⟨-, q1, -⟩ := hs z
        obtain ⟨q2, q3⟩ := ks z
        subst q2
        exact ⟨by omega, hdd, q3⟩)
      refine ⟨f1, f7, f8, f9, p4, n4, w4, ?_, ?_, by omega, gT, frm_tr (frm_tr hf kf) gf, fun z => ?_⟩
      · rw [pX12_some_4, if_pos (show ib false = (0 : Int32) from rfl), r_here hTP hp, gbd_s, if_pos hpT, if_pos (by rw [hc]; rfl), nI_1, e1, gbd_s, k1, gbd_s]
        exact g1
      · have hs0 := c_sign (N := T) hTP h3 hp false
        rw [if_pos ⟨rfl, hpT⟩] at hs0
        rw [pX2_readEither_7, if_neg (by rw [n_le (by omega) (by omega)]; omega), hs0, gbd_s, if_pos (by rw [hc]; rfl), nI_1, e2, gbd_s, k2, gbd_s, nI_1]
        exact g2
      · obtain ⟨q1, q2, q3⟩ := gs z
        obtain ⟨-, r1, -⟩ := hs q1
        obtain ⟨r2, -⟩ := ks q1
        exact ⟨rfl, by omega, q3⟩
    · obtain ⟨e1, e2⟩ := st_so (act := act) (kR := kR) (kC := kC) (o := o) (m := m) (m' := m') (i := i) (n := n) (a7 := a7) (a8 := a8) (a9 := a9) hTP h3 hp w (by omega) hst
      exact ⟨a1, a7, a8, a9, p, n, w, e1, e2, Nat.le_refl _, hp, frm_rf, fun z => ⟨z, Nat.le_refl _, (hw z).2.2⟩⟩

theorem fk_so (ha : act ≤ 4) (h3 : ∀ j, j < T → a3 j = nI (tp j)) {kR : (Int32 → Int32 → (Nat → Int32) → Int32 → Int32 → Int32 → Option ((Nat → Int32) × Int32 × Int32 × Int32))} {kC : ((Nat → Int32) → Int32 → (Nat → Int32) → (Nat → Int32) → (Nat → Int32) → Int32 → Int32 → Int32 → Int32 → Option ((Nat → Int32) × (Nat → Int32) × (Nat → Int32) × Int32 × Int32 × Int32))} {o : Nat} (hk : FK tp T act a3 (pX12_every kR) (pX2_readBoth T kC) o 1) : FK tp T act a3 (pX12_some kR) (pX2_readEither T kC) o (1 + 1) := by
  intro a1 a7 a8 a9 p n d w hTP hp hw
  have hT := hTP.1
  obtain ⟨b1, b7, b8, b9, p2, n2, w2, e1, e2, hp2, hpT2, hf, hs⟩ := hk a1 a7 a8 a9 p n d w hTP hp (fun z => by
    obtain ⟨q1, q2, q3⟩ := hw z
    exact ⟨q1, by omega, q3⟩)
  obtain ⟨f1, f7, f8, f9, p4, n4, w4, g1, g2, gp, gT, gf, gs⟩ := lp_so ha h3 hk 200 1000 1000 b1 b7 b8 b9 p2 n2 d 0 w2 (by omega) (by omega) (by omega) (Nat.zero_le _) hpT2 (frm_tp hf hTP) (fun z => by
    obtain ⟨q0, q1, q2⟩ := hs z
    obtain ⟨r1, r2, -⟩ := hw q0
    exact ⟨by omega, r2, q2⟩)
  refine ⟨f1, f7, f8, f9, p4, n4, w4, ?_, ?_, by omega, gT, frm_tr hf gf, fun z => ?_⟩
  · unfold pX12_some
    rw [e1, gbd_s]; exact g1
  · unfold pX2_readEither
    rw [e2, gbd_s]; exact g2
  · obtain ⟨q1, q2, q3⟩ := gs z
    obtain ⟨q4, q5, -⟩ := hs q1
    exact ⟨q4, by omega, q3⟩
def am1 (c : Nat) : Option Nat := if c = 119 then some 0 else if c = 99 then some 1 else if c = 107 then some 2 else if c = 98 then some 3 else if c = 121 then some 4 else if c = 116 then some 5 else none
def am6 (c : Nat) : Option Nat := if c = 60 then some 0 else if c = 61 then some 1 else if c = 62 then some 2 else none
def lx1 : List Nat := [119, 99, 107, 98, 121, 116]
theorem jl_1 : pJ0_length_8abf5 1 = some (nI 6) := by decide +kernel
theorem jc_1 : ∀ i, i < 6 → pJ0_charAt_5068e 1 (nI i) = some (nI (lx1.getD i 0)) := by decide +kernel
def lx6 : List Nat := [60, 61, 62]
theorem jl_6 : pJ0_length_8abf5 6 = some (nI 3) := by decide +kernel
theorem jc_6 : ∀ i, i < 3 → pJ0_charAt_5068e 6 (nI i) = some (nI (lx6.getD i 0)) := by decide +kernel
def amI (x : Option Nat) : Int32 := match x with
  | none => -nI 1
  | some k => nI k
def amN (x : Option Nat) : Nat := match x with
  | none => 0
  | some _ => 1
theorem ix_1 : ∀ c, c < 128 → pJ0_indexOf_0f7a4 1 (UInt32.toInt32 (Int32.toUInt32 (nI c) % 65536)) = some (amI (am1 c)) := by decide +kernel
theorem am1_some (c : Nat) (h : c < 128) (k : Nat) (e : am1 c = some k) : k < 6 := by
  unfold am1 at e
  split at e
  · cases e; decide
  split at e
  · cases e; decide
  split at e
  · cases e; decide
  split at e
  · cases e; decide
  split at e
  · cases e; decide
  split at e
  · cases e; decide
  · cases e
theorem am6_some (c : Nat) (h : c < 128) (k : Nat) (e : am6 c = some k) : k < 3 ∧ ((k = 0 ∧ c = 60) ∨ (k = 1 ∧ c = 61) ∨ (k = 2 ∧ c = 62)) := by
  unfold am6 at e
  split at e
  · rename_i q; cases e; exact ⟨by decide, Or.inl ⟨rfl, q⟩⟩
  split at e
  · rename_i q; cases e; exact ⟨by decide, Or.inr (Or.inl ⟨rfl, q⟩)⟩
  split at e
  · rename_i q; cases e; exact ⟨by decide, Or.inr (Or.inr ⟨rfl, q⟩)⟩
  · cases e
theorem am6_none (c : Nat) (h : c < 128) (e : am6 c = none) : c ≠ 60 ∧ c ≠ 61 ∧ c ≠ 62 := by
  unfold am6 at e
  split at e
  · cases e
  split at e
  · cases e
  split at e
  · cases e
  · rename_i q0 q1 q2; exact ⟨q0, q1, q2⟩
section AM
variable {t : Nat → Int32}
theorem r_am1 (hTP : TPR t tp T) {p : Nat} (hp : p ≤ T) : pX12_among_s1 t (nI T) (nI p) = some (if p < T then (amI (am1 (tp p)), nI (p + amN (am1 (tp p)))) else (-nI 1, nI p)) := by
  have hT := hTP.1
  have hh := r_here hTP hp
  unfold pX12_among_s1
  by_cases z : p < T
  · have hb := (hTP.2 p z).2
    rw [if_pos z] at hh ⊢
    rw [show (1000 : Nat) = 999 + 1 from rfl, pX12_among_s1_2, jl_1, gbd_s, if_neg (by decide), hh, gbd_s, show (0 : Int32) = nI 0 from rfl, jc_1 0 (by decide), gbd_s]
    by_cases c0 : tp p = 119
    · rw [if_pos (by rw [c0]; rfl), nI_1, c0]; rfl
    rw [if_neg (by rw [show lx1.getD 0 0 = 119 from rfl, n_eq (by omega) (by omega)]; exact c0)]
    rw [show (999 : Nat) = 998 + 1 from rfl, pX12_among_s1_2, jl_1, gbd_s, if_neg (by decide), hh, gbd_s, show (nI 0 + 1 : Int32) = nI 1 from rfl, jc_1 1 (by decide), gbd_s]
    by_cases c1 : tp p = 99
    · rw [if_pos (by rw [c1]; rfl), nI_1, c1]; rfl
    rw [if_neg (by rw [show lx1.getD 1 0 = 99 from rfl, n_eq (by omega) (by omega)]; exact c1)]
    rw [show (998 : Nat) = 997 + 1 from rfl, pX12_among_s1_2, jl_1, gbd_s, if_neg (by decide), hh, gbd_s, show (nI 1 + 1 : Int32) = nI 2 from rfl, jc_1 2 (by decide), gbd_s]
    by_cases c2 : tp p = 107
    · rw [if_pos (by rw [c2]; rfl), nI_1, c2]; rfl
    rw [if_neg (by rw [show lx1.getD 2 0 = 107 from rfl, n_eq (by omega) (by omega)]; exact c2)]
    rw [show (997 : Nat) = 996 + 1 from rfl, pX12_among_s1_2, jl_1, gbd_s, if_neg (by decide), hh, gbd_s, show (nI 2 + 1 : Int32) = nI 3 from rfl, jc_1 3 (by decide), gbd_s]
    by_cases c3 : tp p = 98
    · rw [if_pos (by rw [c3]; rfl), nI_1, c3]; rfl
    rw [if_neg (by rw [show lx1.getD 3 0 = 98 from rfl, n_eq (by omega) (by omega)]; exact c3)]
    rw [show (996 : Nat) = 995 + 1 from rfl, pX12_among_s1_2, jl_1, gbd_s, if_neg (by decide), hh, gbd_s, show (nI 3 + 1 : Int32) = nI 4 from rfl, jc_1 4 (by decide), gbd_s]
    by_cases c4 : tp p = 121
    · rw [if_pos (by rw [c4]; rfl), nI_1, c4]; rfl
    rw [if_neg (by rw [show lx1.getD 4 0 = 121 from rfl, n_eq (by omega) (by omega)]; exact c4)]
    rw [show (995 : Nat) = 994 + 1 from rfl, pX12_among_s1_2, jl_1, gbd_s, if_neg (by decide), hh, gbd_s, show (nI 4 + 1 : Int32) = nI 5 from rfl, jc_1 5 (by decide), gbd_s]
    by_cases c5 : tp p = 116
    · rw [if_pos (by rw [c5]; rfl), nI_1, c5]; rfl
    rw [if_neg (by rw [show lx1.getD 5 0 = 116 from rfl, n_eq (by omega) (by omega)]; exact c5)]
    rw [show (994 : Nat) = 993 + 1 from rfl, pX12_among_s1_2, jl_1, gbd_s, if_pos (by decide)]
    have e : am1 (tp p) = none := by unfold am1; rw [if_neg c0, if_neg c1, if_neg c2, if_neg c3, if_neg c4, if_neg c5]
    rw [e]; rfl
  · rw [if_neg z] at hh ⊢
    rw [show (1000 : Nat) = 999 + 1 from rfl, pX12_among_s1_2, jl_1, gbd_s, if_neg (by decide), hh, gbd_s, show (0 : Int32) = nI 0 from rfl, jc_1 0 (by decide), gbd_s, if_neg (by decide)]
    rw [show (999 : Nat) = 998 + 1 from rfl, pX12_among_s1_2, jl_1, gbd_s, if_neg (by decide), hh, gbd_s, show (nI 0 + 1 : Int32) = nI 1 from rfl, jc_1 1 (by decide), gbd_s, if_neg (by decide)]
    rw [show (998 : Nat) = 997 + 1 from rfl, pX12_among_s1_2, jl_1, gbd_s, if_neg (by decide), hh, gbd_s, show (nI 1 + 1 : Int32) = nI 2 from rfl, jc_1 2 (by decide), gbd_s, if_neg (by decide)]
    rw [show (997 : Nat) = 996 + 1 from rfl, pX12_among_s1_2, jl_1, gbd_s, if_neg (by decide), hh, gbd_s, show (nI 2 + 1 : Int32) = nI 3 from rfl, jc_1 3 (by decide), gbd_s, if_neg (by decide)]
    rw [show (996 : Nat) = 995 + 1 from rfl, pX12_among_s1_2, jl_1, gbd_s, if_neg (by decide), hh, gbd_s, show (nI 3 + 1 : Int32) = nI 4 from rfl, jc_1 4 (by decide), gbd_s, if_neg (by decide)]
    rw [show (995 : Nat) = 994 + 1 from rfl, pX12_among_s1_2, jl_1, gbd_s, if_neg (by decide), hh, gbd_s, show (nI 4 + 1 : Int32) = nI 5 from rfl, jc_1 5 (by decide), gbd_s, if_neg (by decide)]
    rw [show (994 : Nat) = 993 + 1 from rfl, pX12_among_s1_2, jl_1, gbd_s, if_pos (by decide)]; rfl
theorem r_am6 (hTP : TPR t tp T) {p : Nat} (hp : p ≤ T) : pX12_among_s6 t (nI T) (nI p) = some (if p < T then (amI (am6 (tp p)), nI (p + amN (am6 (tp p)))) else (-nI 1, nI p)) := by
  have hT := hTP.1
  have hh := r_here hTP hp
  unfold pX12_among_s6
  by_cases z : p < T
  · have hb := (hTP.2 p z).2
    rw [if_pos z] at hh ⊢
    rw [show (1000 : Nat) = 999 + 1 from rfl, pX12_among_s6_2, jl_6, gbd_s, if_neg (by decide), hh, gbd_s, show (0 : Int32) = nI 0 from rfl, jc_6 0 (by decide), gbd_s]
    by_cases c0 : tp p = 60
    · rw [if_pos (by rw [c0]; rfl), nI_1, c0]; rfl
    rw [if_neg (by rw [show lx6.getD 0 0 = 60 from rfl, n_eq (by omega) (by omega)]; exact c0)]
    rw [show (999 : Nat) = 998 + 1 from rfl, pX12_among_s6_2, jl_6, gbd_s, if_neg (by decide), hh, gbd_s, show (nI 0 + 1 : Int32) = nI 1 from rfl, jc_6 1 (by decide), gbd_s]
    by_cases c1 : tp p = 61
    · rw [if_pos (by rw [c1]; rfl), nI_1, c1]; rfl
    rw [if_neg (by rw [show lx6.getD 1 0 = 61 from rfl, n_eq (by omega) (by omega)]; exact c1)]
    rw [show (998 : Nat) = 997 + 1 from rfl, pX12_among_s6_2, jl_6, gbd_s, if_neg (by decide), hh, gbd_s, show (nI 1 + 1 : Int32) = nI 2 from rfl, jc_6 2 (by decide), gbd_s]
    by_cases c2 : tp p = 62
    · rw [if_pos (by rw [c2]; rfl), nI_1, c2]; rfl
    rw [if_neg (by rw [show lx6.getD 2 0 = 62 from rfl, n_eq (by omega) (by omega)]; exact c2)]
    rw [show (997 : Nat) = 996 + 1 from rfl, pX12_among_s6_2, jl_6, gbd_s, if_pos (by decide)]
    have e : am6 (tp p) = none := by unfold am6; rw [if_neg c0, if_neg c1, if_neg c2]
    rw [e]; rfl
  · rw [if_neg z] at hh ⊢
    rw [show (1000 : Nat) = 999 + 1 from rfl, pX12_among_s6_2, jl_6, gbd_s, if_neg (by decide), hh, gbd_s, show (0 : Int32) = nI 0 from rfl, jc_6 0 (by decide), gbd_s, if_neg (by decide)]
    rw [show (999 : Nat) = 998 + 1 from rfl, pX12_among_s6_2, jl_6, gbd_s, if_neg (by decide), hh, gbd_s, show (nI 0 + 1 : Int32) = nI 1 from rfl, jc_6 1 (by decide), gbd_s, if_neg (by decide)]
    rw [show (998 : Nat) = 997 + 1 from rfl, pX12_among_s6_2, jl_6, gbd_s, if_neg (by decide), hh, gbd_s, show (nI 1 + 1 : Int32) = nI 2 from rfl, jc_6 2 (by decide), gbd_s, if_neg (by decide)]
    rw [show (997 : Nat) = 996 + 1 from rfl, pX12_among_s6_2, jl_6, gbd_s, if_pos (by decide)]; rfl
end AM

theorem em_w {o5 v : Int32} {b1 : Nat → Int32} : pX12_emits o5 1 b1 v = some b1 := by unfold pX12_emits; rw [if_neg (by decide)]
theorem add_w {N : Nat} {o4 n a b c : Int32} {a7 a8 a9 : Nat → Int32} : pX2_add N o4 1 a7 a8 a9 n a b c = some (a7, a8, a9, n) := by unfold pX2_add; rw [if_neg (by decide)]
theorem some_w {kR : (Int32 → Int32 → (Nat → Int32) → Int32 → Int32 → Int32 → Option ((Nat → Int32) × Int32 × Int32 × Int32))} {o5 o7 : Int32} (hkw : ∀ (a1 : Nat → Int32) (p op : Int32), kR o5 o7 a1 p 1 op = some (a1, p, 1, op)) (a1 : Nat → Int32) (p op : Int32) : pX12_some kR o5 o7 a1 p 1 op = some (a1, p, 1, op) := by
  have e1 : pX12_every kR o5 o7 a1 p 1 op = some (a1, p, 1, op) := by
    unfold pX12_every
    rw [hkw, gbd_s, show (1000 : Nat) = 999 + 1 from rfl, pX12_every_4]
    simp only
    rw [if_neg (by decide)]
  unfold pX12_some
  rw [e1, gbd_s, show (1000 : Nat) = 999 + 1 from rfl, pX12_some_4]
  simp only
  rw [if_neg (by decide)]
theorem c97 {kC : ((Nat → Int32) → Int32 → (Nat → Int32) → (Nat → Int32) → (Nat → Int32) → Int32 → Int32 → Int32 → Int32 → Option ((Nat → Int32) × (Nat → Int32) × (Nat → Int32) × Int32 × Int32 × Int32))} {o4 o5 o6 o10 : Int32} {a7 a8 a9 : Nat → Int32} : pX2_readPartB_97 T kC a3 o4 a7 a8 a9 o5 o6 o10 (-nI 1) = some (a7, a8, a9, o5, 1, o10) := by
  unfold pX2_readPartB_97
  rw [if_pos (by decide)]
theorem c59 {kC : ((Nat → Int32) → Int32 → (Nat → Int32) → (Nat → Int32) → (Nat → Int32) → Int32 → Int32 → Int32 → Int32 → Option ((Nat → Int32) × (Nat → Int32) × (Nat → Int32) × Int32 × Int32 × Int32))} {o4 o5 o6 o10 x1 x2 : Int32} {a7 a8 a9 : Nat → Int32} (h : ¬ x2 = 40 ∨ (5 : Int32) ≤ x1) (y : Int32) : pX2_readPartB_59 T kC a3 o4 a7 a8 a9 o5 o6 o10 x1 x2 y = pX2_readPartB_97 T kC a3 o4 a7 a8 a9 o5 o6 o10 y := by
  unfold pX2_readPartB_59
  by_cases z : x2 = 40
  · rw [if_pos z, if_pos (h.resolve_left (fun q => q z))]
  · rw [if_neg z]
theorem c20 {kC : ((Nat → Int32) → Int32 → (Nat → Int32) → (Nat → Int32) → (Nat → Int32) → Int32 → Int32 → Int32 → Int32 → Option ((Nat → Int32) × (Nat → Int32) × (Nat → Int32) × Int32 × Int32 × Int32))} {o4 o5 o6 o10 x1 x2 : Int32} {a7 a8 a9 : Nat → Int32} (h : ¬ x2 = 33 ∨ (5 : Int32) ≤ x1) (y : Int32) : pX2_readPartB_20 T kC a3 o4 a7 a8 a9 o5 o6 o10 x1 x2 y = pX2_readPartB_59 T kC a3 o4 a7 a8 a9 o5 o6 o10 x1 x2 y := by
  unfold pX2_readPartB_20
  by_cases z : x2 = 33
  · rw [if_pos z, if_pos (h.resolve_left (fun q => q z))]
  · rw [if_neg z]
theorem fk_fac (ha : act ≤ 4) (h3 : ∀ j, j < T → a3 j = nI (tp j)) {kR : (Int32 → Int32 → (Nat → Int32) → Int32 → Int32 → Int32 → Option ((Nat → Int32) × Int32 × Int32 × Int32))} {kC : ((Nat → Int32) → Int32 → (Nat → Int32) → (Nat → Int32) → (Nat → Int32) → Int32 → Int32 → Int32 → Int32 → Option ((Nat → Int32) × (Nat → Int32) × (Nat → Int32) × Int32 × Int32 × Int32))} {o : Nat} (ho : o ≤ 5) (hk : o < 5 → FK tp T act a3 kR kC (o + 1) 0) (hkw : ∀ (a1 : Nat → Int32) (p op : Int32), kR (nI act) (nI T) a1 p 1 op = some (a1, p, 1, op)) : FK tp T act a3 (pX12_factorB kR) (pX2_readPartB T kC) o 0 := by
  intro a1 a7 a8 a9 p n d w hTP hp hw
  have hT := hTP.1
  have hs := c_sign (N := T) hTP h3 hp w
  have hh := r_here hTP hp
  cases w with
  | true =>
    refine ⟨a1, a7, a8, a9, p, n, true, ?_, ?_, Nat.le_refl _, hp, frm_rf, fun z => by cases z⟩
    · unfold pX12_factorB
      rw [if_neg (by decide)]
    · unfold pX2_readPartB
      rw [if_neg (show ¬ (true = false ∧ p < T) from fun z => by cases z.1)] at hs
      rw [hs, gbd_s, if_neg (by decide), show (-1 : Int32) = -nI 1 from by decide, c20 (Or.inl (by decide)), c59 (Or.inl (by decide)), c97]; rfl
  | false =>
    obtain ⟨hnp, hdd, hSS⟩ := hw rfl
    have e0 : ib false = (0 : Int32) := rfl
    by_cases z : p < T
    · have hb := (hTP.2 p z).2
      rw [if_pos z] at hh
      rw [if_pos ⟨rfl, z⟩] at hs
      have hix := ix_1 (tp p) (by omega)
      have hQ : pX2_readPartB T kC a3 (nI T) a7 a8 a9 (nI p) (ib false) (nI n) (nI o) = pX2_readPartB_20 T kC a3 (nI T) a7 a8 a9 (nI p) (ib false) (nI n) (nI o) (nI (tp p)) (amI (am1 (tp p))) := by
        unfold pX2_readPartB
        rw [hs, gbd_s, if_pos (by rw [n_lit, n_le (by omega) (by omega)]; omega), hix, gbd_s]
      have h33 : nI (tp p) = 33 ↔ tp p = 33 := by rw [n_lit, n_eq (by omega) (by omega)]
      have h40 : nI (tp p) = 40 ↔ tp p = 40 := by rw [n_lit, n_eq (by omega) (by omega)]
      have ho5 : nI o = 5 ↔ o = 5 := by rw [n_lit, n_eq (by omega) (by omega)]
      have hl5 : (5 : Int32) ≤ nI o ↔ 5 ≤ o := by rw [n_lit, n_le (by omega) (by omega)]
      have ham : ¬ tp p = 33 → ¬ tp p = 40 → pX12_factorB kR (nI act) (nI T) a1 (nI p) (ib false) (nI o) = gbd (pX12_among_s1 a1 (nI T) (nI p)) (fun z_2 => gnm z_2.1 fun v_3 => if v_3 = (-1) then pX12_factorB_130 kR (nI act) (nI T) a1 z_2.2 (ib false) (nI o) v_3 1 else pX12_factorB_130 kR (nI act) (nI T) a1 z_2.2 (ib false) (nI o) v_3 0) := fun q1 q2 => by
        unfold pX12_factorB
        rw [if_pos e0, hh, gbd_s, if_neg (fun y => q1 (h33.mp y)), if_neg (fun y => q2 (h40.mp y))]
      by_cases c33 : tp p = 33
      · have eam : amI (am1 (tp p)) = -nI 1 := by rw [c33]; rfl
        by_cases o5 : o = 5
        · refine ⟨a1, a7, a8, a9, p, n, true, ?_, ?_, Nat.le_refl _, hp, frm_rf, fun z => by cases z⟩
          · unfold pX12_factorB
            rw [if_pos e0, hh, gbd_s, if_pos (h33.mpr c33), if_pos (ho5.mpr o5)]
            unfold pX12_factorB_39
            rw [gck_t (by decide), if_neg (by decide)]
            unfold pX12_factorB_69
            rw [if_pos (h33.mpr c33), Int32.add_zero, hkw, gbd_s, em_w, gbd_s, n_lit, nI_add, pk_sub (by omega)]; rfl
          · rw [hQ, eam, c20 (Or.inr (hl5.mpr (by omega))), c59 (Or.inr (hl5.mpr (by omega))), c97]; rfl
        · obtain ⟨b1, b7, b8, b9, p2, n2, w2, e1, e2, hp2, hpT2, hf, hst⟩ := hk (by omega) a1 a7 a8 a9 (p + 1) n d false hTP (by omega) (fun _ => ⟨by omega, by omega, hSS⟩)
          obtain ⟨f1, f7, f8, f9, n3, k1, k2, kf, ks⟩ := e_emit (act := act) (T := T) (v := -1) (a := -1) (b := 0) (c := 0) (d := d + 1) (d' := d + 1) (n := n2) (a1 := b1) (a7 := b7) (a8 := b8) (a9 := b9) ha hT w2 (fun z => by
            obtain ⟨-, q1, q2⟩ := hst z
            exact ⟨by omega, q2, by omega, Or.inr (Or.inl ⟨by decide, by decide, by omega, rfl⟩)⟩)
          refine ⟨f1, f7, f8, f9, p2, n3, w2, ?_, ?_, by omega, hpT2, frm_tr hf kf, fun y => ?_⟩
          · unfold pX12_factorB
            rw [if_pos e0, hh, gbd_s, if_pos (h33.mpr c33), if_neg (fun y => o5 (ho5.mp y))]
            unfold pX12_factorB_39
            rw [gck_t (by decide), if_pos rfl]
            unfold pX12_factorB_69
            rw [if_pos (h33.mpr c33), nI_1, nI_1, show (0 : Int32) = ib false from rfl, e1, gbd_s, k1, gbd_s, n_lit, pk_sub (by omega)]; rfl
          · rw [hQ]
            unfold pX2_readPartB_20
            rw [if_pos (h33.mpr c33), if_neg (fun y => o5 (by have := hl5.mp y; omega)), nI_1, nI_1, e2, gbd_s, k2, gbd_s]
          · obtain ⟨-, q1, -⟩ := hst y
            obtain ⟨q2, q3⟩ := ks y
            subst q2
            exact ⟨rfl, by omega, q3⟩
      · by_cases c40 : tp p = 40
        · have eam : amI (am1 (tp p)) = -nI 1 := by rw [c40]; rfl
          by_cases o5 : o = 5
          · refine ⟨a1, a7, a8, a9, p, n, true, ?_, ?_, Nat.le_refl _, hp, frm_rf, fun z => by cases z⟩
            · unfold pX12_factorB
              rw [if_pos e0, hh, gbd_s, if_neg (fun y => c33 (h33.mp y)), if_pos (h40.mpr c40), if_pos (ho5.mpr o5)]
              unfold pX12_factorB_39
              rw [gck_t (by decide), if_neg (by decide)]
              unfold pX12_factorB_69
              rw [if_neg (fun y => c33 (h33.mp y)), Int32.add_zero, some_w hkw, gbd_s]
              simp only
              unfold pX12_must pX12_must_21
              rw [if_neg (by decide), gck_t (by decide), if_neg (by decide), Int32.add_zero, gbd_s, n_lit, nI_add, pk_sub (by omega)]; rfl
            · rw [hQ, eam, c20 (Or.inr (hl5.mpr (by omega))), c59 (Or.inr (hl5.mpr (by omega))), c97]; rfl
          · obtain ⟨b1, b7, b8, b9, p2, n2, w2, e1, e2, hp2, hpT2, hf, hst⟩ := fk_so ha h3 (fk_ev ha h3 (hk (by omega))) a1 a7 a8 a9 (p + 1) n d false hTP (by omega) (fun _ => ⟨by omega, by omega, hSS⟩)
            have m1 := r_must (frm_tp hf hTP) hpT2 w2 (c := 41) (by decide)
            have m2 := c_take (N := T) hTP h3 hpT2 w2 (c := 41) (by decide)
            have m3 := st1_le (tp := tp) (T := T) (c := 41) (q := (p2, w2)) hpT2
            refine ⟨b1, b7, b8, b9, (st1 tp T 41 (p2, w2)).1, n2, (st1 tp T 41 (p2, w2)).2, ?_, ?_, by have := m3.1; simp only at this; omega, m3.2, hf, fun y => ?_⟩
            · unfold pX12_factorB
              rw [if_pos e0, hh, gbd_s, if_neg (fun y => c33 (h33.mp y)), if_pos (h40.mpr c40), if_neg (fun y => o5 (ho5.mp y))]
              unfold pX12_factorB_39
              rw [gck_t (by decide), if_pos rfl]
              unfold pX12_factorB_69
              rw [if_neg (fun y => c33 (h33.mp y)), nI_1, nI_1, show (0 : Int32) = ib false from rfl, e1, gbd_s]
              simp only
              rw [show (41 : Int32) = nI 41 from rfl, m1, gbd_s, n_lit, pk_sub (by omega)]; rfl
            · rw [hQ, c20 (Or.inl (fun y => c33 (h33.mp y)))]
              unfold pX2_readPartB_59
              rw [if_pos (h40.mpr c40), if_neg (fun y => o5 (by have := hl5.mp y; omega)), nI_1, nI_1, e2, gbd_s]
              simp only
              rw [show (41 : Int32) = nI 41 from rfl, m2, gbd_s]
            · obtain ⟨q1, q2⟩ := st1_w y
              obtain ⟨-, q3, q4⟩ := hst q1
              have := m3.1
              simp only at this
              exact ⟨rfl, by omega, q4⟩
        · have r1 := r_am1 hTP hp
          rw [if_pos z] at r1
          rw [POUT, ham c33 c40, r1, gbd_s, gnm_e, hQ, c20 (Or.inl (fun y => c33 (h33.mp y))), c59 (Or.inl (fun y => c40 (h40.mp y)))]
          cases e : am1 (tp p) with
          | none =>
            refine ⟨a1, a7, a8, a9, p, n, true, ?_, c97, Nat.le_refl _, hp, frm_rf, fun z => by cases z⟩
            rw [if_pos (by show amI none = (-1 : Int32); decide)]
            unfold pX12_factorB_130
            rw [gck_t (by decide), if_neg (by decide)]
            unfold pX12_factorB_150
            rw [if_neg (by decide)]
            unfold pX12_factorB_169
            have g1 := r_fig hTP hp true
            rw [num_a true (fun y => by cases y.1)] at g1
            rw [gck_t (by decide), show (1 : Int32) = ib true from rfl]
            show gbd (pX12_figures a1 (nI T) (nI (p + 0)) (ib true)) _ = _
            rw [Nat.add_zero, g1, gbd_s, gnm_e]
            show gbd (pX12_emits (nI act) 1 a1 _) _ = _
            rw [em_w, gbd_s]
          | some k =>
            have hk6 := am1_some (tp p) (by omega) k e
            show ∃ b1 b7 b8 b9 p' n' w', _
            rw [if_neg (by show ¬ nI k = -1; rw [show (-1 : Int32) = -nI 1 from by decide, z_peq (by omega) (by omega) (by omega)]; exact fun y => y)]
            unfold pX12_factorB_130
            rw [gck_t (by decide), if_pos rfl]
            show ∃ b1 b7 b8 b9 p' n' w', gbd (pX12_among_s6 a1 (nI T) (nI (p + 1))) _ = _ ∧ _
            have r6 := r_am6 hTP (p := p + 1) (by omega)
            have s6 := c_sign (N := T) hTP h3 (p := p + 1) (by omega) false
            have kneg : ¬ amI (some k) < 0 := by show ¬ nI k < 0; rw [n_lit, n_lt (by omega) (by omega)]; omega
            unfold pX2_readPartB_97
            have wrong : ∀ zz : Int32, ¬ zz = 60 → ¬ zz = 61 → ¬ zz = 62 → (∃ b1 b7 b8 b9 p' n' w', pX12_factorB_150 kR (nI act) (nI T) a1 (nI (p + 1)) (ib false) (nI o) (nI k) (-nI 1) = some (b1, nI p', ib w', nI o) ∧ (if zz = 60 then pX2_readPartB_156 T kC a3 (nI T) a7 a8 a9 (nI (p + 1) + 1) (ib false) (nI n) (nI k) zz else if zz = 61 then pX2_readPartB_156 T kC a3 (nI T) a7 a8 a9 (nI (p + 1) + 1) (ib false) (nI n) (nI k) zz else if zz = 62 then pX2_readPartB_156 T kC a3 (nI T) a7 a8 a9 (nI (p + 1) + 1) (ib false) (nI n) (nI k) zz else pX2_readPartB_156 T kC a3 (nI T) a7 a8 a9 (nI (p + 1)) 1 (nI n) (nI k) zz) = some (b7, b8, b9, nI p', ib w', nI n') ∧ p ≤ p' ∧ p' ≤ T ∧ FRM act a1 b1 ∧ (w' = false → false = false ∧ n' + p ≤ n + p' ∧ SS act n' (d + 1) b1 b7 b8 b9)) := fun zz y0 y1 y2 => by
              refine ⟨a1, a7, a8, a9, p + 1, n, true, ?_, ?_, by omega, by omega, frm_rf, fun z => by cases z⟩
              · unfold pX12_factorB_150
                rw [if_pos e0, if_pos (by decide)]
                unfold pX12_factorB_169
                have g1 := r_fig hTP (p := p + 1) (by omega) true
                rw [num_a true (fun y => by cases y.1)] at g1
                rw [gck_t (by decide), show (1 : Int32) = ib true from rfl, g1, gbd_s, gnm_e]
                show gbd (pX12_emits (nI act) 1 a1 _) _ = _
                rw [em_w, gbd_s]
              · rw [if_neg y0, if_neg y1, if_neg y2]
                unfold pX2_readPartB_156
                have g1 := c_num (N := T) hTP h3 (p := p + 1) (by omega) true
                rw [num_a true (fun y => by cases y.1)] at g1
                rw [show (1 : Int32) = ib true from rfl, g1, gbd_s, gnm_e, if_neg y0, if_neg y1]
                show gbd (pX2_add T (nI T) 1 a7 a8 a9 (nI n) _ _ _) _ = _
                rw [add_w, gbd_s]
            by_cases y1 : p + 1 < T
            · have hb1 := (hTP.2 (p + 1) y1).2
              rw [if_pos y1] at r6
              rw [if_pos ⟨rfl, y1⟩] at s6
              rw [r6, gbd_s, if_neg kneg, nI_1, s6, gbd_s]
              cases e6 : am6 (tp (p + 1)) with
              | none =>
                obtain ⟨q0, q1, q2⟩ := am6_none (tp (p + 1)) (by omega) e6
                exact wrong (nI (tp (p + 1))) (by rw [n_lit, n_eq (by omega) (by omega)]; exact q0) (by rw [n_lit, n_eq (by omega) (by omega)]; exact q1) (by rw [n_lit, n_eq (by omega) (by omega)]; exact q2)
              | some hh6 =>
                obtain ⟨q0, q1⟩ := am6_some (tp (p + 1)) (by omega) hh6 e6
                have g1 := r_fig hTP (p := p + 1 + 1) (by omega) false
                have g2 := c_num (N := T) hTP h3 (p := p + 1 + 1) (by omega) false
                have g3 := num_le (tp := tp) (T := T) (q := (p + 1 + 1, false)) (by omega)
                have g4 := @num_w tp T (p + 1 + 1, false)
                generalize num tp T (p + 1 + 1, false) = nu at *
                obtain ⟨x, p3, w3⟩ := nu
                simp only at g1 g2 g3 g4
                have hem : ∀ bb cc : Int32, (hh6 = 0 → bb = nI 0 ∧ cc = nI x - nI 1) → (hh6 = 1 → bb = nI x ∧ cc = nI x) → (hh6 = 2 → bb = nI (x + 1) ∧ cc = nI 1000) → ∃ b1 b7 b8 b9 n3, pX12_emits (nI act) (ib w3) a1 (nI k + 8 * nI hh6 + 32 * nI x) = some b1 ∧ pX2_add T (nI T) (ib w3) a7 a8 a9 (nI n) (nI k) bb cc = some (b7, b8, b9, nI n3) ∧ FRM act a1 b1 ∧ (w3 = false → n3 = n + 1 ∧ SS act (n + 1) (d + 1) b1 b7 b8 b9) := fun bb cc u0 u1 u2 => e_emit ha hT w3 (fun yy => by
                  have := g4 yy
                  refine ⟨by omega, hSS, by omega, Or.inl ⟨k, hh6, x, hk6, q0, by omega, ?_, rfl, u0, u1, u2, by omega, rfl⟩⟩
                  simp (disch := omega) only [n_lit, pk_mul, nI_add])
                have hR : pX12_factorB_150 kR (nI act) (nI T) a1 (nI (p + 1 + 1)) (ib false) (nI o) (nI k) (nI hh6) = gbd (pX12_emits (nI act) (ib w3) a1 (nI k + 8 * nI hh6 + 32 * nI x)) (fun z_4 => some (z_4, nI p3, ib w3, nI o)) := by
                  unfold pX12_factorB_150
                  rw [if_pos e0, if_neg (by rw [show (-1 : Int32) = -nI 1 from by decide, z_peq (by omega) (by omega) (by omega)]; exact fun y => y)]
                  unfold pX12_factorB_169
                  rw [gck_t (by decide), show (0 : Int32) = ib false from rfl, g1, gbd_s, gnm_e]
                have h156 : pX2_readPartB_156 T kC a3 (nI T) a7 a8 a9 (nI (p + 1 + 1)) (ib false) (nI n) (nI k) (nI (tp (p + 1))) = (if nI (tp (p + 1)) = 60 then gbd (pX2_add T (nI T) (ib w3) a7 a8 a9 (nI n) (nI k) 0 (nI x - 1)) (fun z_5 => some (z_5.1, z_5.2.1, z_5.2.2.1, nI p3, ib w3, z_5.2.2.2)) else if nI (tp (p + 1)) = 61 then gbd (pX2_add T (nI T) (ib w3) a7 a8 a9 (nI n) (nI k) (nI x) (nI x)) (fun z_4 => some (z_4.1, z_4.2.1, z_4.2.2.1, nI p3, ib w3, z_4.2.2.2)) else gbd (pX2_add T (nI T) (ib w3) a7 a8 a9 (nI n) (nI k) (nI x + 1) 1000) (fun z_3 => some (z_3.1, z_3.2.1, z_3.2.2.1, nI p3, ib w3, z_3.2.2.2))) := by
                  unfold pX2_readPartB_156
                  rw [g2, gbd_s, gnm_e]
                show ∃ b1 b7 b8 b9 p' n' w', pX12_factorB_150 kR (nI act) (nI T) a1 (nI (p + 1 + 1)) (ib false) (nI o) (nI k) (nI hh6) = _ ∧ _
                rw [hR, nI_1, show amI (some k) = nI k from rfl, h156]
                have fini : ∀ (b1 b7 b8 b9 : Nat → Int32) (n3 : Nat), FRM act a1 b1 → (w3 = false → n3 = n + 1 ∧ SS act (n + 1) (d + 1) b1 b7 b8 b9) → p ≤ p3 ∧ p3 ≤ T ∧ FRM act a1 b1 ∧ (w3 = false → false = false ∧ n3 + p ≤ n + p3 ∧ SS act n3 (d + 1) b1 b7 b8 b9) := fun b1 b7 b8 b9 n3 kf ks => ⟨by omega, by omega, kf, fun yy => by
                  obtain ⟨u1, u2⟩ := ks yy
                  have := g4 yy
                  subst u1
                  exact ⟨rfl, by omega, u2⟩⟩
                rcases q1 with ⟨rfl, q1⟩ | ⟨rfl, q1⟩ | ⟨rfl, q1⟩
                · obtain ⟨b1, b7, b8, b9, n3, k1, k2, kf, ks⟩ := hem 0 (nI x - 1) (fun _ => ⟨rfl, rfl⟩) (fun y => by omega) (fun y => by omega)
                  exact ⟨b1, b7, b8, b9, p3, n3, w3, by rw [k1, gbd_s], by rw [q1, if_pos (show nI 60 = (60 : Int32) from rfl), if_pos (show nI 60 = (60 : Int32) from rfl), k2, gbd_s], fini b1 b7 b8 b9 n3 kf ks⟩
                · obtain ⟨b1, b7, b8, b9, n3, k1, k2, kf, ks⟩ := hem (nI x) (nI x) (fun y => by omega) (fun _ => ⟨rfl, rfl⟩) (fun y => by omega)
                  exact ⟨b1, b7, b8, b9, p3, n3, w3, by rw [k1, gbd_s], by rw [q1, if_neg (by decide), if_pos (show nI 61 = (61 : Int32) from rfl), if_neg (by decide), if_pos (show nI 61 = (61 : Int32) from rfl), k2, gbd_s], fini b1 b7 b8 b9 n3 kf ks⟩
                · obtain ⟨b1, b7, b8, b9, n3, k1, k2, kf, ks⟩ := hem (nI x + 1) 1000 (fun y => by omega) (fun y => by omega) (fun _ => ⟨nI_1 _, rfl⟩)
                  exact ⟨b1, b7, b8, b9, p3, n3, w3, by rw [k1, gbd_s], by rw [q1, if_neg (by decide), if_neg (by decide), if_pos (show nI 62 = (62 : Int32) from rfl), if_neg (by decide), if_neg (by decide), k2, gbd_s], fini b1 b7 b8 b9 n3 kf ks⟩
            · rw [if_neg y1] at r6
              rw [if_neg (fun y => y1 y.2)] at s6
              rw [r6, gbd_s, if_neg kneg, nI_1, s6, gbd_s]
              exact wrong (-nI 1) (by decide) (by decide) (by decide)
    · rw [if_neg z] at hh
      rw [if_neg (fun y => z y.2)] at hs
      refine ⟨a1, a7, a8, a9, p, n, true, ?_, ?_, Nat.le_refl _, hp, frm_rf, fun z => by cases z⟩
      · have r1 := r_am1 hTP hp
        rw [if_neg z] at r1
        unfold pX12_factorB
        rw [if_pos e0, hh, gbd_s, if_neg (by decide), if_neg (by decide), r1, gbd_s, gnm_e, if_pos (by show -nI 1 = (-1 : Int32); decide)]
        unfold pX12_factorB_130
        rw [gck_t (by decide), if_neg (by decide)]
        unfold pX12_factorB_150
        rw [if_neg (by decide)]
        unfold pX12_factorB_169
        have g1 := r_fig hTP hp true
        rw [num_a true (fun y => by cases y.1)] at g1
        rw [gck_t (by decide), show (1 : Int32) = ib true from rfl, g1, gbd_s, gnm_e]
        show gbd (pX12_emits (nI act) 1 a1 _) _ = _
        rw [em_w, gbd_s]
      · unfold pX2_readPartB
        rw [hs, gbd_s, if_neg (by decide), show (-1 : Int32) = -nI 1 from by decide, c20 (Or.inl (by decide)), c59 (Or.inl (by decide)), c97]; rfl
/-- the parts of a fact, to any depth -/
theorem fk_part (ha : act ≤ 4) (h3 : ∀ j, j < T → a3 j = nI (tp j)) : ∀ (f o : Nat), o ≤ 5 → 7 ≤ f + o → FK tp T act a3 (pX12_factor f) (pX2_readPart T f) o 0 := by
  intro f
  induction f with
  | zero => intro o h1 h2; omega
  | succ f ih =>
    intro o h1 h2
    show FK tp T act a3 (pX12_factorB (pX12_factor f)) (pX2_readPartB T (pX2_readPart T f)) o 0
    refine fk_fac ha h3 h1 (fun h => ih (o + 1) (by omega) (by omega)) (fun a1 p op => ?_)
    obtain ⟨f, rfl⟩ : ∃ j, f = j + 1 := ⟨f - 1, by omega⟩
    show pX12_factorB (pX12_factor f) (nI act) (nI T) a1 p 1 op = some (a1, p, 1, op)
    unfold pX12_factorB
    rw [if_neg (by decide)]
end PS
