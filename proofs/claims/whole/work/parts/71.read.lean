/-! PURE SIDE: a house is read, both sides; written by wip/whole/mach/parse3.py -/
theorem spl_w {tp : Nat → Nat} {T : Nat} : ∀ (l : List Nat) (q : Nat × Bool), (spl tp T l q).2 = false → q.2 = false := by
  intro l
  induction l with
  | nil => intro q h; exact h
  | cons c l ih => intro q h; exact (st1_w (ih _ h)).1
theorem ng_sub (a b : Int32) : -a - b = -(a + b) := by
  first
    | exact Int32.neg_add.symm
    | exact (Int32.neg_add _ _).symm
    | (rw [Int32.sub_eq_add_neg, Int32.neg_add])
theorem ng_mul (a : Int32) : (-1 : Int32) * a = -a := by
  first
    | exact Int32.neg_one_mul a
    | (rw [show (-1 : Int32) = -(1 : Int32) from by decide, Int32.neg_mul, Int32.one_mul])
def TNs (act : Nat) (a1 : Nat → Int32) (y0 y1 y2 : Int32) : Prop := (∃ f, f ≤ 99 ∧ a1 (232 + act) = nI f ∧ y0 = nI f) ∧ (∃ f, f ≤ 99 ∧ a1 (237 + act) = nI f ∧ y1 = nI f) ∧ (∃ f, f ≤ 99 ∧ a1 (242 + act) = nI f ∧ y2 = nI f)
def FR2 (act : Nat) (a1 b1 : Nat → Int32) : Prop := ∀ j, j ≠ 247 + act → j ≠ 232 + act → j ≠ 237 + act → j ≠ 242 + act → (j < 252 + 140 * act ∨ 352 + 140 * act ≤ j) → b1 j = a1 j
theorem fr2_tr {act : Nat} {a b c : Nat → Int32} (h : FR2 act a b) (k : FR2 act b c) : FR2 act a c := fun j h1 h2 h3 h4 h5 => (k j h1 h2 h3 h4 h5).trans (h j h1 h2 h3 h4 h5)
theorem fr2_of {act : Nat} {a b : Nat → Int32} (h : FRM act a b) : FR2 act a b := fun j h1 _ _ _ h5 => h j h1 h5
theorem fr2_tp {act T : Nat} {tp : Nat → Nat} {a1 b1 : Nat → Int32} (h : FR2 act a1 b1) (ht : TPR a1 tp T) : TPR b1 tp T := ⟨ht.1, fun j hj => by
  have h1 := ht.1
  exact ⟨(h (132 + j) (by omega) (by omega) (by omega) (by omega) (by omega)).trans (ht.2 j hj).1, (ht.2 j hj).2⟩⟩
theorem tn_frm {act : Nat} {a b : Nat → Int32} {y0 y1 y2 : Int32} (h : FRM act a b) (k : TNs act a y0 y1 y2) : TNs act b y0 y1 y2 := by
  obtain ⟨⟨f, f1, f2, f3⟩, ⟨g, g1, g2, g3⟩, ⟨i, i1, i2, i3⟩⟩ := k
  exact ⟨⟨f, f1, (h _ (by omega) (by omega)).trans f2, f3⟩, ⟨g, g1, (h _ (by omega) (by omega)).trans g2, g3⟩, ⟨i, i1, (h _ (by omega) (by omega)).trans i2, i3⟩⟩
theorem ss_upd {act n d k : Nat} {a1 a7 a8 a9 : Nat → Int32} {v : Int32} (hk : k < 247) (h : SS act n d a1 a7 a8 a9) : SS act n d (upd a1 k v) a7 a8 a9 := by
  obtain ⟨h1, D, h2, h3, h4, h5⟩ := h
  refine ⟨(pk_un (by omega)).trans h1, D, h2, h3, h4, fun i hi => ?_⟩
  rw [pk_un (by omega)]; exact h5 i hi
section RD2
variable {tp : Nat → Nat} {T act : Nat} {a3 : Nat → Int32}
theorem gain_s0 (ha : act ≤ 4) (h3 : ∀ j, j < T → a3 j = nI (tp j)) {a1 a7 a8 a9 : Nat → Int32} {p n : Nat} (hTP : TPR a1 tp T) (hp : p ≤ T) (w : Bool) (hw : w = false → n ≤ p ∧ SS act n 0 a1 a7 a8 a9) : POUT act T p n 0 a1 w (pX12_much_s0 (nI act) (nI T) a1 (nI p) (ib w) (nI 0) (-10)) (pX2_readGain_s0 T a3 (nI T) a7 a8 a9 (nI p) (ib w) (nI n) (1)) (nI 0) := by
  have hT := hTP.1
  have s1 := r_sp0 hTP 5 1000 0 p w rfl (by omega) hp
  have s2 := c_ta0 (N := T) hTP h3 5 1000 0 p w rfl (by omega) hp
  have s3 := spl_le (tp := tp) (T := T) lx0 (p, w) hp
  have s4 := spl_w (tp := tp) (T := T) lx0 (p, w)
  rw [show lx0.drop 0 = lx0 from rfl] at s1 s2
  generalize spl tp T lx0 (p, w) = q1 at *
  obtain ⟨p1, w1⟩ := q1
  simp only at s1 s2 s3 s4
  have f1 := r_fig hTP (p := p1) s3.2 w1
  have f2 := c_num (N := T) hTP h3 (p := p1) s3.2 w1
  have f3 := num_le (tp := tp) (T := T) (q := (p1, w1)) s3.2
  have f4 := @num_w tp T (p1, w1)
  generalize num tp T (p1, w1) = nu at *
  obtain ⟨x, p2, w2⟩ := nu
  simp only at f1 f2 f3 f4
  have m1 := r_must hTP (p := p2) f3.2.1 w2 (c := 32) (by decide)
  have m2 := c_take (N := T) hTP h3 (p := p2) f3.2.1 w2 (c := 32) (by decide)
  have m3 := st1_le (tp := tp) (T := T) (c := 32) (q := (p2, w2)) f3.2.1
  have m4 := @st1_w tp T 32 (p2, w2)
  generalize st1 tp T 32 (p2, w2) = q3 at *
  obtain ⟨p3, w3⟩ := q3
  simp only at m1 m2 m3 m4
  obtain ⟨b1, b7, b8, b9, p4, n4, w4, e1, e2, hp4, hpT4, hf, hs⟩ := fk_so ha h3 (fk_ev ha h3 (fk_part ha h3 8 0 (by decide) (by decide))) a1 a7 a8 a9 p3 n 0 w3 hTP m3.2 (fun y => by
    obtain ⟨y1, y2⟩ := m4 y
    obtain ⟨y3, y4⟩ := f4 y1
    obtain ⟨y5, y6⟩ := hw (s4 y3)
    exact ⟨by omega, by omega, y6⟩)
  obtain ⟨c1, c7, c8, c9, n5, k1, k2, kf, ks⟩ := e_emit (act := act) (T := T) (v := (-10) - nI x) (a := -4) (b := (1) * nI x) (c := 0) (d := 0 + 1) (d' := 0) (n := n4) (a1 := b1) (a7 := b7) (a8 := b8) (a9 := b9) ha hT w4 (fun z => by
    obtain ⟨q0, q1, q2⟩ := hs z
    obtain ⟨y1, y2⟩ := m4 q0
    obtain ⟨y3, y4⟩ := f4 y1
    obtain ⟨y5, y6⟩ := hw (s4 y3)
    refine ⟨by omega, q2, by omega, Or.inr (Or.inr (Or.inr (Or.inr (Or.inl ⟨x, by omega, by rw [show (-10 : Int32) = -nI 10 from by decide, ng_sub, nI_add], by decide, Int32.one_mul _, rfl, rfl⟩))))⟩)
  refine ⟨c1, c7, c8, c9, p4, n5, w4, ?_, ?_, by omega, hpT4, frm_tr hf kf, fun z => ?_⟩
  · unfold pX12_much_s0 pX12_spells_s0
    rw [show (0 : Int32) = nI 0 from rfl, s1, gbd_s]
    simp only
    rw [f1, gbd_s, gnm_e]
    simp only
    rw [show (32 : Int32) = nI 32 from rfl, m1, gbd_s]
    simp only
    rw [e1, gbd_s]
    simp only
    rw [k1, gbd_s]
  · unfold pX2_readGain_s0 pX2_takeAll_s0
    rw [show (0 : Int32) = nI 0 from rfl, s2, gbd_s]
    simp only
    rw [f2, gbd_s, gnm_e]
    simp only
    rw [show (32 : Int32) = nI 32 from rfl, m2, gbd_s]
    simp only
    rw [e2, gbd_s]
    simp only
    rw [show (nI 0 : Int32) = 0 from rfl, k2, gbd_s]
  · obtain ⟨q0, q1, q2⟩ := hs z
    obtain ⟨y1, y2⟩ := m4 q0
    obtain ⟨y3, y4⟩ := f4 y1
    obtain ⟨r1, r2⟩ := ks z
    subst r1
    exact ⟨s4 y3, by omega, r2⟩
theorem gain_s2 (ha : act ≤ 4) (h3 : ∀ j, j < T → a3 j = nI (tp j)) {a1 a7 a8 a9 : Nat → Int32} {p n : Nat} (hTP : TPR a1 tp T) (hp : p ≤ T) (w : Bool) (hw : w = false → n ≤ p ∧ SS act n 0 a1 a7 a8 a9) : POUT act T p n 0 a1 w (pX12_much_s2 (nI act) (nI T) a1 (nI p) (ib w) (nI 0) (-200)) (pX2_readGain_s2 T a3 (nI T) a7 a8 a9 (nI p) (ib w) (nI n) (-1)) (nI 0) := by
  have hT := hTP.1
  have s1 := r_sp2 hTP 5 1000 0 p w rfl (by omega) hp
  have s2 := c_ta2 (N := T) hTP h3 5 1000 0 p w rfl (by omega) hp
  have s3 := spl_le (tp := tp) (T := T) lx2 (p, w) hp
  have s4 := spl_w (tp := tp) (T := T) lx2 (p, w)
  rw [show lx2.drop 0 = lx2 from rfl] at s1 s2
  generalize spl tp T lx2 (p, w) = q1 at *
  obtain ⟨p1, w1⟩ := q1
  simp only at s1 s2 s3 s4
  have f1 := r_fig hTP (p := p1) s3.2 w1
  have f2 := c_num (N := T) hTP h3 (p := p1) s3.2 w1
  have f3 := num_le (tp := tp) (T := T) (q := (p1, w1)) s3.2
  have f4 := @num_w tp T (p1, w1)
  generalize num tp T (p1, w1) = nu at *
  obtain ⟨x, p2, w2⟩ := nu
  simp only at f1 f2 f3 f4
  have m1 := r_must hTP (p := p2) f3.2.1 w2 (c := 32) (by decide)
  have m2 := c_take (N := T) hTP h3 (p := p2) f3.2.1 w2 (c := 32) (by decide)
  have m3 := st1_le (tp := tp) (T := T) (c := 32) (q := (p2, w2)) f3.2.1
  have m4 := @st1_w tp T 32 (p2, w2)
  generalize st1 tp T 32 (p2, w2) = q3 at *
  obtain ⟨p3, w3⟩ := q3
  simp only at m1 m2 m3 m4
  obtain ⟨b1, b7, b8, b9, p4, n4, w4, e1, e2, hp4, hpT4, hf, hs⟩ := fk_so ha h3 (fk_ev ha h3 (fk_part ha h3 8 0 (by decide) (by decide))) a1 a7 a8 a9 p3 n 0 w3 hTP m3.2 (fun y => by
    obtain ⟨y1, y2⟩ := m4 y
    obtain ⟨y3, y4⟩ := f4 y1
    obtain ⟨y5, y6⟩ := hw (s4 y3)
    exact ⟨by omega, by omega, y6⟩)
  obtain ⟨c1, c7, c8, c9, n5, k1, k2, kf, ks⟩ := e_emit (act := act) (T := T) (v := (-200) - nI x) (a := -4) (b := (-1) * nI x) (c := 0) (d := 0 + 1) (d' := 0) (n := n4) (a1 := b1) (a7 := b7) (a8 := b8) (a9 := b9) ha hT w4 (fun z => by
    obtain ⟨q0, q1, q2⟩ := hs z
    obtain ⟨y1, y2⟩ := m4 q0
    obtain ⟨y3, y4⟩ := f4 y1
    obtain ⟨y5, y6⟩ := hw (s4 y3)
    refine ⟨by omega, q2, by omega, Or.inr (Or.inr (Or.inr (Or.inr (Or.inr ⟨x, by omega, by rw [show (-200 : Int32) = -nI 200 from by decide, ng_sub, nI_add], by decide, ng_mul _, rfl, rfl⟩))))⟩)
  refine ⟨c1, c7, c8, c9, p4, n5, w4, ?_, ?_, by omega, hpT4, frm_tr hf kf, fun z => ?_⟩
  · unfold pX12_much_s2 pX12_spells_s2
    rw [show (0 : Int32) = nI 0 from rfl, s1, gbd_s]
    simp only
    rw [f1, gbd_s, gnm_e]
    simp only
    rw [show (32 : Int32) = nI 32 from rfl, m1, gbd_s]
    simp only
    rw [e1, gbd_s]
    simp only
    rw [k1, gbd_s]
  · unfold pX2_readGain_s2 pX2_takeAll_s2
    rw [show (0 : Int32) = nI 0 from rfl, s2, gbd_s]
    simp only
    rw [f2, gbd_s, gnm_e]
    simp only
    rw [show (32 : Int32) = nI 32 from rfl, m2, gbd_s]
    simp only
    rw [e2, gbd_s]
    simp only
    rw [show (nI 0 : Int32) = 0 from rfl, k2, gbd_s]
  · obtain ⟨q0, q1, q2⟩ := hs z
    obtain ⟨y1, y2⟩ := m4 q0
    obtain ⟨y3, y4⟩ := f4 y1
    obtain ⟨r1, r2⟩ := ks z
    subst r1
    exact ⟨s4 y3, by omega, r2⟩
theorem share_s3 (ha : act ≤ 4) (h3 : ∀ j, j < T → a3 j = nI (tp j)) {a1 : Nat → Int32} {p : Nat} (hTP : TPR a1 tp T) (hp : p ≤ T) (w : Bool) : ∃ (b1 : Nat → Int32) (x p' : Nat) (w' : Bool), pX12_tellsHere_s3 (nI act) (nI T) a1 (nI p) (ib w) 232 = some (b1, nI p', ib w') ∧ pX2_readShare_s3 T a3 (nI T) (nI p) (ib w) = some (nI x, nI p', ib w') ∧ p ≤ p' ∧ p' ≤ T ∧ x ≤ 99 ∧ (w' = false → w = false ∧ b1 = upd a1 (232 + act) (nI x)) ∧ (w' = true → b1 = a1) := by
  have hT := hTP.1
  have s1 := r_sp3 hTP 5 1000 0 p w rfl (by omega) hp
  have s2 := c_ta3 (N := T) hTP h3 5 1000 0 p w rfl (by omega) hp
  have s3 := spl_le (tp := tp) (T := T) lx3 (p, w) hp
  have s4 := spl_w (tp := tp) (T := T) lx3 (p, w)
  rw [show lx3.drop 0 = lx3 from rfl] at s1 s2
  generalize spl tp T lx3 (p, w) = q1 at *
  obtain ⟨p1, w1⟩ := q1
  simp only at s1 s2 s3 s4
  have f1 := r_fig hTP (p := p1) s3.2 w1
  have f2 := c_num (N := T) hTP h3 (p := p1) s3.2 w1
  have f3 := num_le (tp := tp) (T := T) (q := (p1, w1)) s3.2
  have f4 := @num_w tp T (p1, w1)
  generalize num tp T (p1, w1) = nu at *
  obtain ⟨x, p2, w2⟩ := nu
  simp only at f1 f2 f3 f4
  have hC : pX2_readShare_s3 T a3 (nI T) (nI p) (ib w) = some (nI x, nI p2, ib w2) := by
    unfold pX2_readShare_s3 pX2_takeAll_s3
    rw [show (0 : Int32) = nI 0 from rfl, s2, gbd_s]
    simp only
    rw [f2, gbd_s]
  cases w2 with
  | true =>
    refine ⟨a1, x, p2, true, ?_, hC, by omega, f3.2.1, f3.2.2, (fun z => by cases z), fun _ => rfl⟩
    unfold pX12_tellsHere_s3 pX12_spells_s3
    rw [show (0 : Int32) = nI 0 from rfl, s1, gbd_s]
    simp only
    rw [f1, gbd_s, gnm_e]
    simp only
    rw [if_neg (by decide)]
  | false =>
    refine ⟨upd a1 (232 + act) (nI x), x, p2, false, ?_, hC, by omega, f3.2.1, f3.2.2, fun _ => ⟨s4 (f4 rfl).1, rfl⟩, (fun z => by cases z)⟩
    unfold pX12_tellsHere_s3 pX12_spells_s3
    rw [show (0 : Int32) = nI 0 from rfl, s1, gbd_s]
    simp only
    rw [f1, gbd_s, gnm_e]
    simp only
    rw [if_pos (show ib false = nI 0 from rfl)]
    simp (disch := omega) only [n_lit, nI_add, nI_1, n_cl, gck_in, gck_t, gck_T, ↓gnm_e, gbd_s, ↓reduceIte, n_leT, n_leF, n_ltT, n_ltF, n_eqT, n_eqF, Nat.add_zero, Nat.zero_add]
theorem share_s4 (ha : act ≤ 4) (h3 : ∀ j, j < T → a3 j = nI (tp j)) {a1 : Nat → Int32} {p : Nat} (hTP : TPR a1 tp T) (hp : p ≤ T) (w : Bool) : ∃ (b1 : Nat → Int32) (x p' : Nat) (w' : Bool), pX12_tellsHere_s4 (nI act) (nI T) a1 (nI p) (ib w) 237 = some (b1, nI p', ib w') ∧ pX2_readShare_s4 T a3 (nI T) (nI p) (ib w) = some (nI x, nI p', ib w') ∧ p ≤ p' ∧ p' ≤ T ∧ x ≤ 99 ∧ (w' = false → w = false ∧ b1 = upd a1 (237 + act) (nI x)) ∧ (w' = true → b1 = a1) := by
  have hT := hTP.1
  have s1 := r_sp4 hTP 4 1000 0 p w rfl (by omega) hp
  have s2 := c_ta4 (N := T) hTP h3 4 1000 0 p w rfl (by omega) hp
  have s3 := spl_le (tp := tp) (T := T) lx4 (p, w) hp
  have s4 := spl_w (tp := tp) (T := T) lx4 (p, w)
  rw [show lx4.drop 0 = lx4 from rfl] at s1 s2
  generalize spl tp T lx4 (p, w) = q1 at *
  obtain ⟨p1, w1⟩ := q1
  simp only at s1 s2 s3 s4
  have f1 := r_fig hTP (p := p1) s3.2 w1
  have f2 := c_num (N := T) hTP h3 (p := p1) s3.2 w1
  have f3 := num_le (tp := tp) (T := T) (q := (p1, w1)) s3.2
  have f4 := @num_w tp T (p1, w1)
  generalize num tp T (p1, w1) = nu at *
  obtain ⟨x, p2, w2⟩ := nu
  simp only at f1 f2 f3 f4
  have hC : pX2_readShare_s4 T a3 (nI T) (nI p) (ib w) = some (nI x, nI p2, ib w2) := by
    unfold pX2_readShare_s4 pX2_takeAll_s4
    rw [show (0 : Int32) = nI 0 from rfl, s2, gbd_s]
    simp only
    rw [f2, gbd_s]
  cases w2 with
  | true =>
    refine ⟨a1, x, p2, true, ?_, hC, by omega, f3.2.1, f3.2.2, (fun z => by cases z), fun _ => rfl⟩
    unfold pX12_tellsHere_s4 pX12_spells_s4
    rw [show (0 : Int32) = nI 0 from rfl, s1, gbd_s]
    simp only
    rw [f1, gbd_s, gnm_e]
    simp only
    rw [if_neg (by decide)]
  | false =>
    refine ⟨upd a1 (237 + act) (nI x), x, p2, false, ?_, hC, by omega, f3.2.1, f3.2.2, fun _ => ⟨s4 (f4 rfl).1, rfl⟩, (fun z => by cases z)⟩
    unfold pX12_tellsHere_s4 pX12_spells_s4
    rw [show (0 : Int32) = nI 0 from rfl, s1, gbd_s]
    simp only
    rw [f1, gbd_s, gnm_e]
    simp only
    rw [if_pos (show ib false = nI 0 from rfl)]
    simp (disch := omega) only [n_lit, nI_add, nI_1, n_cl, gck_in, gck_t, gck_T, ↓gnm_e, gbd_s, ↓reduceIte, n_leT, n_leF, n_ltT, n_ltF, n_eqT, n_eqF, Nat.add_zero, Nat.zero_add]
theorem share_s5 (ha : act ≤ 4) (h3 : ∀ j, j < T → a3 j = nI (tp j)) {a1 : Nat → Int32} {p : Nat} (hTP : TPR a1 tp T) (hp : p ≤ T) (w : Bool) : ∃ (b1 : Nat → Int32) (x p' : Nat) (w' : Bool), pX12_tellsHere_s5 (nI act) (nI T) a1 (nI p) (ib w) 242 = some (b1, nI p', ib w') ∧ pX2_readShare_s5 T a3 (nI T) (nI p) (ib w) = some (nI x, nI p', ib w') ∧ p ≤ p' ∧ p' ≤ T ∧ x ≤ 99 ∧ (w' = false → w = false ∧ b1 = upd a1 (242 + act) (nI x)) ∧ (w' = true → b1 = a1) := by
  have hT := hTP.1
  have s1 := r_sp5 hTP 4 1000 0 p w rfl (by omega) hp
  have s2 := c_ta5 (N := T) hTP h3 4 1000 0 p w rfl (by omega) hp
  have s3 := spl_le (tp := tp) (T := T) lx5 (p, w) hp
  have s4 := spl_w (tp := tp) (T := T) lx5 (p, w)
  rw [show lx5.drop 0 = lx5 from rfl] at s1 s2
  generalize spl tp T lx5 (p, w) = q1 at *
  obtain ⟨p1, w1⟩ := q1
  simp only at s1 s2 s3 s4
  have f1 := r_fig hTP (p := p1) s3.2 w1
  have f2 := c_num (N := T) hTP h3 (p := p1) s3.2 w1
  have f3 := num_le (tp := tp) (T := T) (q := (p1, w1)) s3.2
  have f4 := @num_w tp T (p1, w1)
  generalize num tp T (p1, w1) = nu at *
  obtain ⟨x, p2, w2⟩ := nu
  simp only at f1 f2 f3 f4
  have hC : pX2_readShare_s5 T a3 (nI T) (nI p) (ib w) = some (nI x, nI p2, ib w2) := by
    unfold pX2_readShare_s5 pX2_takeAll_s5
    rw [show (0 : Int32) = nI 0 from rfl, s2, gbd_s]
    simp only
    rw [f2, gbd_s]
  cases w2 with
  | true =>
    refine ⟨a1, x, p2, true, ?_, hC, by omega, f3.2.1, f3.2.2, (fun z => by cases z), fun _ => rfl⟩
    unfold pX12_tellsHere_s5 pX12_spells_s5
    rw [show (0 : Int32) = nI 0 from rfl, s1, gbd_s]
    simp only
    rw [f1, gbd_s, gnm_e]
    simp only
    rw [if_neg (by decide)]
  | false =>
    refine ⟨upd a1 (242 + act) (nI x), x, p2, false, ?_, hC, by omega, f3.2.1, f3.2.2, fun _ => ⟨s4 (f4 rfl).1, rfl⟩, (fun z => by cases z)⟩
    unfold pX12_tellsHere_s5 pX12_spells_s5
    rw [show (0 : Int32) = nI 0 from rfl, s1, gbd_s]
    simp only
    rw [f1, gbd_s, gnm_e]
    simp only
    rw [if_pos (show ib false = nI 0 from rfl)]
    simp (disch := omega) only [n_lit, nI_add, nI_1, n_cl, gck_in, gck_t, gck_T, ↓gnm_e, gbd_s, ↓reduceIte, n_leT, n_leF, n_ltT, n_ltF, n_eqT, n_eqF, Nat.add_zero, Nat.zero_add]
/-- one clause -/
theorem clause (ha : act ≤ 4) (h3 : ∀ j, j < T → a3 j = nI (tp j)) {a1 a7 a8 a9 : Nat → Int32} {y0 y1 y2 : Int32} {p n : Nat} (hTP : TPR a1 tp T) (hp : p ≤ T) (hn : n ≤ p) (hSS : SS act n 0 a1 a7 a8 a9) (hTN : TNs act a1 y0 y1 y2) : ∃ (b1 b7 b8 b9 : Nat → Int32) (u0 u1 u2 : Int32) (p' n' : Nat) (w' : Bool), pX12_clauseHere (nI act) (nI T) a1 (nI p) (ib false) (nI 0) = some (b1, nI p', ib w', nI 0) ∧ (∀ (m c : Nat), c ≤ 10 → pX2_read_4 T a3 (nI T) (m + 1) a7 a8 a9 y0 y1 y2 (nI p) (ib false) (nI n) 1 (nI c) = pX2_read_140 T (pX2_read_4 T a3 (nI T) m) a3 (nI T) b7 b8 b9 u0 u1 u2 (nI p') (ib w') (nI n') (nI c)) ∧ p ≤ p' ∧ p' ≤ T ∧ FR2 act a1 b1 ∧ (w' = false → n' + p ≤ n + p' ∧ SS act n' 0 b1 b7 b8 b9 ∧ TNs act b1 u0 u1 u2) := by
  have hT := hTP.1
  have hs := c_sign (N := T) hTP h3 hp false
  have hh := r_here hTP hp
  have h4 : ∀ m c : Nat, c ≤ 10 → ¬ (10 : Int32) < nI c := fun m c hc => by rw [n_lit, n_lt (by omega) (by omega)]; omega
  obtain ⟨⟨fa, fa1, fa2, fa3⟩, ⟨fb, fb1, fb2, fb3⟩, ⟨fc, fc1, fc2, fc3⟩⟩ := id hTN
  by_cases z : p < T
  · have hb := (hTP.2 p z).2
    rw [if_pos z] at hh
    rw [if_pos ⟨rfl, z⟩] at hs
    have hk102 : nI (tp p) = 102 ↔ tp p = 102 := by rw [n_lit, n_eq (by omega) (by omega)]
    have hk108 : nI (tp p) = 108 ↔ tp p = 108 := by rw [n_lit, n_eq (by omega) (by omega)]
    have hk109 : nI (tp p) = 109 ↔ tp p = 109 := by rw [n_lit, n_eq (by omega) (by omega)]
    have hk111 : nI (tp p) = 111 ↔ tp p = 111 := by rw [n_lit, n_eq (by omega) (by omega)]
    have hk112 : nI (tp p) = 112 ↔ tp p = 112 := by rw [n_lit, n_eq (by omega) (by omega)]

    by_cases c102 : tp p = 102
    · obtain ⟨b1, x, p', w', e1, e2, ep, eT, ex, ew, ew2⟩ := share_s3 ha h3 hTP hp false
      refine ⟨b1, a7, a8, a9, (nI x), y1, y2, p', n, w', ?_, fun m c hcc => ?_, ep, eT, ?_, fun yy => ?_⟩
      · unfold pX12_clauseHere
        rw [hh, gbd_s, if_pos (hk102.mpr c102), e1, gbd_s]
      · rw [pX2_read_4, if_neg (h4 m c hcc), if_neg (by decide), hs, gbd_s, if_pos (hk102.mpr c102), e2, gbd_s]
      · cases w' with
        | true => rw [ew2 rfl]; exact fun _ _ _ _ _ _ => rfl
        | false => rw [(ew rfl).2]; exact fun j _ q1 q2 q3 _ => pk_un (by omega)
      · obtain ⟨-, rfl⟩ := ew yy
        exact ⟨by omega, ss_upd (by omega) hSS, ⟨x, ex, pk_us, rfl⟩, ⟨fb, fb1, (pk_un (by omega)).trans fb2, fb3⟩, ⟨fc, fc1, (pk_un (by omega)).trans fc2, fc3⟩⟩
    by_cases c108 : tp p = 108
    · obtain ⟨b1, b7, b8, b9, p', n', w', e1, e2, ep, eT, ef, ew⟩ := gain_s2 ha h3 hTP hp false (fun _ => ⟨hn, hSS⟩)
      refine ⟨b1, b7, b8, b9, y0, y1, y2, p', n', w', ?_, fun m c hcc => ?_, ep, eT, fr2_of ef, fun yy => ?_⟩
      · unfold pX12_clauseHere
        rw [hh, gbd_s, if_neg (fun y => c102 (hk102.mp y)), if_pos (hk108.mpr c108), e1, gbd_s]
      · rw [pX2_read_4, if_neg (h4 m c hcc), if_neg (by decide), hs, gbd_s, if_neg (fun y => c102 (hk102.mp y)), if_pos (hk108.mpr c108), e2, gbd_s]
      · obtain ⟨-, q1, q2⟩ := ew yy
        exact ⟨q1, q2, tn_frm ef hTN⟩
    by_cases c109 : tp p = 109
    · obtain ⟨b1, b7, b8, b9, p', n', w', e1, e2, ep, eT, ef, ew⟩ := gain_s0 ha h3 hTP hp false (fun _ => ⟨hn, hSS⟩)
      refine ⟨b1, b7, b8, b9, y0, y1, y2, p', n', w', ?_, fun m c hcc => ?_, ep, eT, fr2_of ef, fun yy => ?_⟩
      · unfold pX12_clauseHere
        rw [hh, gbd_s, if_neg (fun y => c102 (hk102.mp y)), if_neg (fun y => c108 (hk108.mp y)), if_pos (hk109.mpr c109), e1, gbd_s]
      · rw [pX2_read_4, if_neg (h4 m c hcc), if_neg (by decide), hs, gbd_s, if_neg (fun y => c102 (hk102.mp y)), if_neg (fun y => c108 (hk108.mp y)), if_pos (hk109.mpr c109), e2, gbd_s]
      · obtain ⟨-, q1, q2⟩ := ew yy
        exact ⟨q1, q2, tn_frm ef hTN⟩
    by_cases c111 : tp p = 111
    · obtain ⟨b1, x, p', w', e1, e2, ep, eT, ex, ew, ew2⟩ := share_s4 ha h3 hTP hp false
      refine ⟨b1, a7, a8, a9, y0, (nI x), y2, p', n, w', ?_, fun m c hcc => ?_, ep, eT, ?_, fun yy => ?_⟩
      · unfold pX12_clauseHere
        rw [hh, gbd_s, if_neg (fun y => c102 (hk102.mp y)), if_neg (fun y => c108 (hk108.mp y)), if_neg (fun y => c109 (hk109.mp y)), if_pos (hk111.mpr c111), e1, gbd_s]
      · rw [pX2_read_4, if_neg (h4 m c hcc), if_neg (by decide), hs, gbd_s, if_neg (fun y => c102 (hk102.mp y)), if_neg (fun y => c108 (hk108.mp y)), if_neg (fun y => c109 (hk109.mp y)), if_pos (hk111.mpr c111), e2, gbd_s]
      · cases w' with
        | true => rw [ew2 rfl]; exact fun _ _ _ _ _ _ => rfl
        | false => rw [(ew rfl).2]; exact fun j _ q1 q2 q3 _ => pk_un (by omega)
      · obtain ⟨-, rfl⟩ := ew yy
        exact ⟨by omega, ss_upd (by omega) hSS, ⟨fa, fa1, (pk_un (by omega)).trans fa2, fa3⟩, ⟨x, ex, pk_us, rfl⟩, ⟨fc, fc1, (pk_un (by omega)).trans fc2, fc3⟩⟩
    by_cases c112 : tp p = 112
    · obtain ⟨b1, x, p', w', e1, e2, ep, eT, ex, ew, ew2⟩ := share_s5 ha h3 hTP hp false
      refine ⟨b1, a7, a8, a9, y0, y1, (nI x), p', n, w', ?_, fun m c hcc => ?_, ep, eT, ?_, fun yy => ?_⟩
      · unfold pX12_clauseHere
        rw [hh, gbd_s, if_neg (fun y => c102 (hk102.mp y)), if_neg (fun y => c108 (hk108.mp y)), if_neg (fun y => c109 (hk109.mp y)), if_neg (fun y => c111 (hk111.mp y)), if_pos (hk112.mpr c112), e1, gbd_s]
      · rw [pX2_read_4, if_neg (h4 m c hcc), if_neg (by decide), hs, gbd_s, if_neg (fun y => c102 (hk102.mp y)), if_neg (fun y => c108 (hk108.mp y)), if_neg (fun y => c109 (hk109.mp y)), if_neg (fun y => c111 (hk111.mp y)), if_pos (hk112.mpr c112), e2, gbd_s]
      · cases w' with
        | true => rw [ew2 rfl]; exact fun _ _ _ _ _ _ => rfl
        | false => rw [(ew rfl).2]; exact fun j _ q1 q2 q3 _ => pk_un (by omega)
      · obtain ⟨-, rfl⟩ := ew yy
        exact ⟨by omega, ss_upd (by omega) hSS, ⟨fa, fa1, (pk_un (by omega)).trans fa2, fa3⟩, ⟨fb, fb1, (pk_un (by omega)).trans fb2, fb3⟩, ⟨x, ex, pk_us, rfl⟩⟩
    refine ⟨a1, a7, a8, a9, y0, y1, y2, p, n, true, ?_, fun m c hcc => ?_, Nat.le_refl _, hp, fun _ _ _ _ _ _ => rfl, fun yy => by cases yy⟩
    · unfold pX12_clauseHere
      rw [hh, gbd_s, if_neg (fun y => c102 (hk102.mp y)), if_neg (fun y => c108 (hk108.mp y)), if_neg (fun y => c109 (hk109.mp y)), if_neg (fun y => c111 (hk111.mp y)), if_neg (fun y => c112 (hk112.mp y))]; rfl
    · rw [pX2_read_4, if_neg (h4 m c hcc), if_neg (by decide), hs, gbd_s, if_neg (fun y => c102 (hk102.mp y)), if_neg (fun y => c108 (hk108.mp y)), if_neg (fun y => c109 (hk109.mp y)), if_neg (fun y => c111 (hk111.mp y)), if_neg (fun y => c112 (hk112.mp y))]; rfl
  · rw [if_neg z] at hh
    rw [if_neg (fun y => z y.2)] at hs
    refine ⟨a1, a7, a8, a9, y0, y1, y2, p, n, true, ?_, fun m c hcc => ?_, Nat.le_refl _, hp, fun _ _ _ _ _ _ => rfl, fun yy => by cases yy⟩
    · unfold pX12_clauseHere
      rw [hh, gbd_s, if_neg (by decide), if_neg (by decide), if_neg (by decide), if_neg (by decide), if_neg (by decide)]; rfl
    · rw [pX2_read_4, if_neg (h4 m c hcc), if_neg (by decide), hs, gbd_s, if_neg (by decide), if_neg (by decide), if_neg (by decide), if_neg (by decide), if_neg (by decide)]; rfl

theorem k_end {m : Nat} {o4 y0 y1 y2 o5 o6 o10 x2 : Int32} {a7 a8 a9 : Nat → Int32} : pX2_read_4 T a3 o4 (m + 1) a7 a8 a9 y0 y1 y2 o5 o6 o10 0 x2 = pX2_read_178 T a3 o4 a7 a8 a9 y0 y1 y2 o5 o6 o10 := by
  rw [pX2_read_4]
  by_cases q : (10 : Int32) < x2
  · rw [if_pos q]
  · rw [if_neg q, if_pos rfl]
abbrev RdC : Type := Int32 × (Nat → Int32) × (Nat → Int32) × (Nat → Int32) × Int32 × Int32 × Int32 × Int32 × Int32 × Int32
abbrev RdR : Type := Int32 × (Nat → Int32) × Int32 × Int32 × Int32 × Int32 × Int32
/-- both ends -/
def REL (act T : Nat) (a1 : Nat → Int32) (rr : RdR) (rc : RdC) : Prop :=
  (∃ p', p' ≤ T ∧ rr.1 = -10 - nI p' ∧ rc.1 = nI p' ∧ FR2 act a1 rr.2.1) ∨ (∃ b1 n', rr.1 = nI act ∧ rr.2.1 = upd (upd b1 53 (b1 53 + 1)) 56 (nI act) ∧ FR2 act a1 b1 ∧ rc.1 = -1 ∧ n' ≤ T ∧ rc.2.2.2.2.2.2.2.2.2 = nI n' ∧ SS act n' 0 b1 rc.2.1 rc.2.2.1 rc.2.2.2.1 ∧ TNs act b1 rc.2.2.2.2.1 rc.2.2.2.2.2.1 rc.2.2.2.2.2.2.1)
theorem rd_end {a1 b1 b7 b8 b9 : Nat → Int32} {u0 u1 u2 : Int32} {p p' n n' : Nat} {w' : Bool} (hpT : p' ≤ T) (hf : FR2 act a1 b1) (hw : w' = false → n' + p ≤ n + p' ∧ SS act n' 0 b1 b7 b8 b9 ∧ TNs act b1 u0 u1 u2) (hp : p ≤ T) (hn : n ≤ p) (hT : T ≤ 100) : ∃ rr rc, pX12_house_165 b1 (nI act) (nI p') (nI T) (ib w') (nI 0) = some rr ∧ pX2_read_178 T a3 (nI T) b7 b8 b9 u0 u1 u2 (nI p') (ib w') (nI n') = some rc ∧ REL act T a1 rr rc := by
  unfold pX12_house_165 pX2_read_178
  cases w' with
  | true => exact ⟨(-10 - nI p', b1, nI act, nI p', nI T, ib true, nI 0), (nI p', b7, b8, b9, u0, u1, u2, nI p', ib true, nI n'), by rw [if_neg (by decide)], by rw [if_neg (by decide)], Or.inl ⟨p', hpT, rfl, rfl, hf⟩⟩
  | false =>
    obtain ⟨v1, v2, v3⟩ := hw rfl
    rw [if_pos (show ib false = (0 : Int32) from rfl), if_pos (show ib false = (0 : Int32) from rfl)]
    by_cases e : p' = T
    · subst e
      refine ⟨(nI act, upd (upd b1 53 (b1 53 + 1)) 56 (nI act), nI act, nI p', nI p', ib false, nI 0), (-1, b7, b8, b9, u0, u1, u2, nI p', ib false, nI n'), ?_, ?_, Or.inr ⟨b1, n', rfl, rfl, hf, rfl, by omega, rfl, v2, v3⟩⟩
      · rw [if_pos rfl]
        simp (disch := omega) only [n_lit, nI_add, nI_1, n_cl, gck_in, gck_t, gck_T, ↓gnm_e, gbd_s, ↓reduceIte, n_leT, n_leF, n_ltT, n_ltF, n_eqT, n_eqF, Nat.add_zero, Nat.zero_add]
      · rw [if_pos (Int32.le_refl _)]
    · refine ⟨(-10 - nI p', b1, nI act, nI p', nI T, ib false, nI 0), (nI p', b7, b8, b9, u0, u1, u2, nI p', ib false, nI n'), ?_, ?_, Or.inl ⟨p', hpT, rfl, rfl, hf⟩⟩
      · rw [if_neg (by rw [n_eq (by omega) (by omega)]; exact e)]
      · rw [if_neg (by rw [n_le (by omega) (by omega)]; omega)]
theorem rd_loop (ha : act ≤ 4) (h3 : ∀ j, j < T → a3 j = nI (tp j)) : ∀ (k c m m' : Nat) (a1 a7 a8 a9 : Nat → Int32) (y0 y1 y2 : Int32) (p n : Nat), c + k = 10 → 1 ≤ c → k + 1 < m → k + 1 < m' → TPR a1 tp T → p ≤ T → n ≤ p → SS act n 0 a1 a7 a8 a9 → TNs act a1 y0 y1 y2 → ∃ rr rc, gbd (pX12_clauseHere (nI act) (nI T) a1 (nI p) (ib false) (nI 0)) (fun z => pX12_house_123 m' z.1 (nI act) z.2.1 (nI T) z.2.2.1 z.2.2.2 (nI c)) = some rr ∧ pX2_read_4 T a3 (nI T) m a7 a8 a9 y0 y1 y2 (nI p) (ib false) (nI n) 1 (nI c) = some rc ∧ REL act T a1 rr rc := by
  intro k
  induction k with
  | zero =>
    intro c m m' a1 a7 a8 a9 y0 y1 y2 p n hk hc1 hm hm' hTP hp hn hSS hTN
    obtain ⟨m, rfl⟩ : ∃ j, m = j + 1 + 1 := ⟨m - 2, by omega⟩
    obtain ⟨m', rfl⟩ : ∃ j, m' = j + 1 := ⟨m' - 1, by omega⟩
    have hT := hTP.1
    obtain ⟨b1, b7, b8, b9, u0, u1, u2, p', n', w', e1, e2, hpp, hpT, hf, hw⟩ := clause ha h3 hTP hp hn hSS hTN
    have hc10 : c = 10 := by omega
    subst hc10
    have hR : gbd (pX12_clauseHere (nI act) (nI T) a1 (nI p) (ib false) (nI 0)) (fun z => pX12_house_123 (m' + 1) z.1 (nI act) z.2.1 (nI T) z.2.2.1 z.2.2.2 (nI 10)) = pX12_house_165 b1 (nI act) (nI p') (nI T) (ib w') (nI 0) := by
      rw [e1, gbd_s]
      simp only
      rw [pX12_house_123]
      cases w' with
      | true => rw [if_neg (by decide)]
      | false => rw [if_pos (show ib false = (0 : Int32) from rfl), if_pos (by decide)]
    have hC : pX2_read_4 T a3 (nI T) (m + 1 + 1) a7 a8 a9 y0 y1 y2 (nI p) (ib false) (nI n) 1 (nI 10) = pX2_read_178 T a3 (nI T) b7 b8 b9 u0 u1 u2 (nI p') (ib w') (nI n') := by
      rw [e2 (m + 1) 10 (by omega)]
      unfold pX2_read_140
      rw [if_pos (by decide), k_end]
    rw [hR, hC]
    exact rd_end hpT hf hw hp hn hT
  | succ k ih =>
    intro c m m' a1 a7 a8 a9 y0 y1 y2 p n hk hc1 hm hm' hTP hp hn hSS hTN
    obtain ⟨m, rfl⟩ : ∃ j, m = j + 1 + 1 := ⟨m - 2, by omega⟩
    obtain ⟨m', rfl⟩ : ∃ j, m' = j + 1 := ⟨m' - 1, by omega⟩
    have hT := hTP.1
    obtain ⟨b1, b7, b8, b9, u0, u1, u2, p', n', w', e1, e2, hpp, hpT, hf, hw⟩ := clause ha h3 hTP hp hn hSS hTN
    have hTP' := fr2_tp hf hTP
    have hc9 : ¬ (10 : Int32) ≤ nI c := by rw [n_lit, n_le (by omega) (by omega)]; omega
    have m1 := c_take (N := T) hTP h3 (p := p') hpT w' (c := 59) (by decide)
    by_cases go : w' = false ∧ p' < T ∧ tp p' = 59
    · obtain ⟨rfl, g1, g2⟩ := go
      obtain ⟨v1, v2, v3⟩ := hw rfl
      obtain ⟨rr, rc, i1, i2, i3⟩ := ih (c + 1) (m + 1) m' b1 b7 b8 b9 u0 u1 u2 (p' + 1) n' (by omega) (by omega) (by omega) (by omega) hTP' (by omega) (by omega) v2 v3
      refine ⟨rr, rc, ?_, ?_, ?_⟩
      · rw [e1, gbd_s]
        simp only
        rw [pX12_house_123, if_pos (show ib false = (0 : Int32) from rfl), if_neg hc9, r_here hTP' hpT, gbd_s, if_pos g1, if_pos (by rw [g2]; rfl), nI_1, nI_1]
        exact i1
      · rw [e2 (m + 1) c (by omega)]
        unfold pX2_read_140
        rw [if_neg hc9, if_neg (by rw [n_le (by omega) (by omega)]; omega), show (59 : Int32) = nI 59 from rfl, m1, gbd_s]
        have es : st1 tp T 59 (p', false) = (p' + 1, false) := if_pos ⟨rfl, g1, g2⟩
        rw [es]
        simp only
        rw [if_neg (by decide), nI_1]
        exact i2
      · rcases i3 with ⟨p9, q1, q2, q3, q4⟩ | ⟨b9', n9, q1, q2, q3, q4⟩
        · exact Or.inl ⟨p9, q1, q2, q3, fr2_tr hf q4⟩
        · exact Or.inr ⟨b9', n9, q1, q2, fr2_tr hf q3, q4⟩
    · have hR : gbd (pX12_clauseHere (nI act) (nI T) a1 (nI p) (ib false) (nI 0)) (fun z => pX12_house_123 (m' + 1) z.1 (nI act) z.2.1 (nI T) z.2.2.1 z.2.2.2 (nI c)) = pX12_house_165 b1 (nI act) (nI p') (nI T) (ib w') (nI 0) := by
        rw [e1, gbd_s]
        simp only
        rw [pX12_house_123]
        cases w' with
        | true => rw [if_neg (by decide)]
        | false =>
          rw [if_pos (show ib false = (0 : Int32) from rfl), if_neg hc9, r_here hTP' hpT, gbd_s]
          by_cases g1 : p' < T
          · have hb := (hTP.2 p' g1).2
            rw [if_pos g1, if_neg (by rw [n_lit, n_eq (by omega) (by omega)]; exact fun y => go ⟨rfl, g1, y⟩)]
          · rw [if_neg g1, if_neg (by decide)]
      rw [hR, e2 (m + 1) c (by omega)]
      unfold pX2_read_140
      rw [if_neg hc9]
      by_cases g1 : T ≤ p'
      · rw [if_pos (by rw [n_le (by omega) (by omega)]; exact g1), k_end]
        exact rd_end hpT hf hw hp hn hT
      · rw [if_neg (by rw [n_le (by omega) (by omega)]; exact g1), show (59 : Int32) = nI 59 from rfl, m1, gbd_s]
        have es : st1 tp T 59 (p', w') = (p', true) := if_neg (fun y => go ⟨y.1, y.2.1, y.2.2⟩)
        rw [es]
        simp only
        rw [if_pos (by decide), k_end]
        refine ⟨(-10 - nI p', b1, nI act, nI p', nI T, ib w', nI 0), (nI p', b7, b8, b9, u0, u1, u2, nI p', ib true, nI n'), ?_, ?_, Or.inl ⟨p', hpT, rfl, rfl, hf⟩⟩
        · unfold pX12_house_165
          cases w' with
          | true => rw [if_neg (by decide)]
          | false => rw [if_pos (show ib false = (0 : Int32) from rfl), if_neg (by rw [n_eq (by omega) (by omega)]; omega)]
        · unfold pX2_read_178
          rw [if_neg (by decide)]
end RD2
