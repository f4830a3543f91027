/-! PURE SIDE: marks on both sides -/
theorem z_pred (n : Nat) : nI (n + 1) + -nI 1 = nI n := pk_m1 n
section RAISE
variable {F : gF} {b : Nat} {s f : Nat → Int32} {fr N : Nat}
theorem r_not {m : Nat} {by6 t : Nat → Int32} {sum : Int32} {i d : Nat} {bb : Bool} (hfr : fr + N ≤ 952) (hi : i < N) (hst : s (fr + i) = -nI 1) (hd : d < 30) (ht : t d = ib bb) : pX12_moreOf_108 s (m + 1) by6 t sum (nI N) (nI fr) (nI (d + 1)) (nI (fr + i)) = pX12_moreOf_108 s m by6 (upd t d (ib (!bb))) sum (nI N) (nI fr) (nI (d + 1)) (nI (fr + (i + 1))) := by
  cases bb with
  | true =>
    rw [show ib true = nI 1 from rfl] at ht
    rw [show ib (!true) = nI 0 from rfl]
    simp (disch := omega) only [pX12_moreOf_108, n_lit, nI_add, nI_1, n_cl, gck_in, gck_t, gck_T, ↓gnm_e, gbd_s, ↓reduceIte, n_leT, n_leF, n_ltT, n_ltF, n_eqT, n_eqF, Nat.add_zero, Nat.zero_add, hst, z_neqT, z_nlt0T, n_sub, Nat.add_sub_cancel, ht, vb_0, Nat.add_assoc]
  | false =>
    rw [show ib false = nI 0 from rfl] at ht
    rw [show ib (!false) = nI 1 from rfl]
    simp (disch := omega) only [pX12_moreOf_108, n_lit, nI_add, nI_1, n_cl, gck_in, gck_t, gck_T, ↓gnm_e, gbd_s, ↓reduceIte, n_leT, n_leF, n_ltT, n_ltF, n_eqT, n_eqF, Nat.add_zero, Nat.zero_add, hst, z_neqT, z_nlt0T, n_sub, Nat.add_sub_cancel, ht, vb_1, Nat.add_assoc]
theorem r_and {m : Nat} {by6 t : Nat → Int32} {sum : Int32} {i d : Nat} {a bb : Bool} (hfr : fr + N ≤ 952) (hi : i < N) (hst : s (fr + i) = -nI 2) (hd : d < 30) (ht : t d = ib a) (ht2 : t (d + 1) = ib bb) : pX12_moreOf_108 s (m + 1) by6 t sum (nI N) (nI fr) (nI (d + 1 + 1)) (nI (fr + i)) = pX12_moreOf_108 s m by6 (upd t d (ib (a && bb))) sum (nI N) (nI fr) (nI (d + 1)) (nI (fr + (i + 1))) := by
  have e1 : ib true = nI 1 := rfl
  have e0 : ib false = nI 0 := rfl
  cases a <;> cases bb <;> simp only [Bool.and_self, Bool.and_true, Bool.and_false, e1, e0] at ht ht2 ⊢ <;> simp (disch := omega) only [pX12_moreOf_108, n_lit, nI_add, nI_1, n_cl, gck_in, gck_t, gck_T, ↓gnm_e, gbd_s, ↓reduceIte, n_leT, n_leF, n_ltT, n_ltF, n_eqT, n_eqF, Nat.add_zero, Nat.zero_add, hst, z_pred, z_neqT, z_neqF, z_nlt0T, z_nleF, n_sub, Nat.add_sub_cancel, ht, ht2, vb_0, vb_1, Nat.add_assoc]
theorem r_or {m : Nat} {by6 t : Nat → Int32} {sum : Int32} {i d : Nat} {a bb : Bool} (hfr : fr + N ≤ 952) (hi : i < N) (hst : s (fr + i) = -nI 3) (hd : d < 30) (ht : t d = ib a) (ht2 : t (d + 1) = ib bb) : pX12_moreOf_108 s (m + 1) by6 t sum (nI N) (nI fr) (nI (d + 1 + 1)) (nI (fr + i)) = pX12_moreOf_108 s m by6 (upd t d (ib (a || bb))) sum (nI N) (nI fr) (nI (d + 1)) (nI (fr + (i + 1))) := by
  have e1 : ib true = nI 1 := rfl
  have e0 : ib false = nI 0 := rfl
  cases a <;> cases bb <;> simp only [Bool.or_self, Bool.or_true, Bool.or_false, e1, e0] at ht ht2 ⊢ <;> simp (disch := omega) only [pX12_moreOf_108, n_lit, nI_add, nI_1, n_cl, gck_in, gck_t, gck_T, ↓gnm_e, gbd_s, ↓reduceIte, n_leT, n_leF, n_ltT, n_ltF, n_eqT, n_eqF, Nat.add_zero, Nat.zero_add, hst, z_pred, z_neqT, z_neqF, z_nlt0T, z_nleF, n_sub, Nat.add_sub_cancel, ht, ht2, vb_0, vb_1, Nat.add_assoc]
theorem r_more {m : Nat} {by6 t : Nat → Int32} {sum : Int32} {i x : Nat} {bb : Bool} (hfr : fr + N ≤ 952) (hi : i < N) (hx : x < 100) (hst : s (fr + i) = -nI (10 + x)) (ht : t 0 = ib bb) : pX12_moreOf_108 s (m + 1) by6 t sum (nI N) (nI fr) (nI 1) (nI (fr + i)) = pX12_moreOf_108 s m by6 t (sum + (if bb = true then nI x else nI 0)) (nI N) (nI fr) (nI 0) (nI (fr + (i + 1))) := by
  cases bb with
  | true =>
    rw [show ib true = nI 1 from rfl] at ht
    rw [if_pos rfl]
    simp (disch := omega) only [pX12_moreOf_108, n_lit, nI_add, nI_1, n_cl, gck_in, gck_t, gck_T, ↓gnm_e, gbd_s, ↓reduceIte, n_leT, n_leF, n_ltT, n_ltF, n_eqT, n_eqF, Nat.add_zero, Nat.zero_add, hst, z_neqF, z_nlt0T, z_nleT, z_nleF, n_sub, ht, z_g2, Nat.add_assoc]
  | false =>
    rw [show ib false = nI 0 from rfl] at ht
    rw [if_neg (by decide)]
    simp (disch := omega) only [pX12_moreOf_108, n_lit, nI_add, nI_1, n_cl, gck_in, gck_t, gck_T, ↓gnm_e, gbd_s, ↓reduceIte, n_leT, n_leF, n_ltT, n_ltF, n_eqT, n_eqF, Nat.add_zero, Nat.zero_add, hst, z_neqF, z_nlt0T, z_nleT, n_sub, ht, Nat.add_assoc]
theorem r_less {m : Nat} {by6 t : Nat → Int32} {sum : Int32} {i x : Nat} {bb : Bool} (hfr : fr + N ≤ 952) (hi : i < N) (hx : x < 100) (hst : s (fr + i) = -nI (200 + x)) (ht : t 0 = ib bb) : pX12_moreOf_108 s (m + 1) by6 t sum (nI N) (nI fr) (nI 1) (nI (fr + i)) = pX12_moreOf_108 s m by6 t (sum + (if bb = true then -nI x else nI 0)) (nI N) (nI fr) (nI 0) (nI (fr + (i + 1))) := by
  cases bb with
  | true =>
    rw [show ib true = nI 1 from rfl] at ht
    rw [if_pos rfl]
    simp (disch := omega) only [pX12_moreOf_108, n_lit, nI_add, nI_1, n_cl, gck_in, gck_t, gck_T, ↓gnm_e, gbd_s, ↓reduceIte, n_leT, n_leF, n_ltT, n_ltF, n_eqT, n_eqF, Nat.add_zero, Nat.zero_add, hst, z_neqF, z_nlt0T, z_nleT, n_sub, ht, z_g1, Nat.add_assoc]
  | false =>
    rw [show ib false = nI 0 from rfl] at ht
    rw [if_neg (by decide)]
    simp (disch := omega) only [pX12_moreOf_108, n_lit, nI_add, nI_1, n_cl, gck_in, gck_t, gck_T, ↓gnm_e, gbd_s, ↓reduceIte, n_leT, n_leF, n_ltT, n_ltF, n_eqT, n_eqF, Nat.add_zero, Nat.zero_add, hst, z_neqF, z_nlt0T, z_nleT, n_sub, ht, Nat.add_assoc]
theorem z_gain (bb : Bool) (x : Int32) : (nI (b1 bb) &&& nI 1) * x = if bb = true then x else nI 0 := by
  cases bb with
  | true => rw [if_pos rfl, show nI (b1 true) &&& nI 1 = 1 from by decide, Int32.one_mul]
  | false => rw [if_neg (by decide), show nI (b1 false) &&& nI 1 = 0 from by decide, Int32.zero_mul]; rfl
/-- the house's steps, on both sides -/
def HS (F : gF) (b : Nat) (s : Nat → Int32) (fr N : Nat) : Prop := hI F b 10 = nI N ∧ N ≤ hn F b ∧ hn F b ≤ 100 ∧ fr + N ≤ 952 ∧ (N = 0 ∨ 232 ≤ fr) ∧ ∃ D : Nat → Nat, D 0 = 0 ∧ (∀ i, i ≤ N → D i ≤ 29) ∧ ∀ i, i < N → sr (s (fr + i)) (ha F b 7 i) (ha F b 8 i) (ha F b 9 i) (D i) (D (i + 1))
def fct (by6 f : Nat → Int32) : Prop := ∀ w, w < 6 → ∃ g, g < 1000 ∧ by6 w = nI g ∧ f w = nI g
theorem j_raise {by6 : Nat → Int32} (hH : HS F b s fr N) (hf : fct by6 f) (t0 : Nat → Int32) : ∃ v t1, pX12_moreOf_108 s 1000 by6 t0 (nI 0) (nI N) (nI fr) (nI 0) (nI fr) = some (v, by6, t1) ∧ pX2_raise F b f = some v := by
  obtain ⟨hN, hNn, hn2, hfr, -, D, hD0, hD, hst⟩ := hH
  have hn2 : hn F b < 1000 := Nat.lt_of_le_of_lt hn2 (by decide)
  have key : ∀ k m m' i : Nat, ∀ (t : Nat → Int32) (tr : Nat → Bool) (sum : Int32), i + k = N → k < m → k < m' → tw tr (D i) t → ∃ v t1, pX12_moreOf_108 s m by6 t sum (nI N) (nI fr) (nI (D i)) (nI (fr + i)) = some (v, by6, t1) ∧ pX2_raise_7 F b f m' (nI (pb tr (D i))) sum (nI i) = some v := by
    intro k
    induction k with
    | zero =>
      intro m m' i t tr sum e h1 h2 ht
      obtain ⟨m, rfl⟩ : ∃ j, m = j + 1 := ⟨m - 1, by omega⟩
      obtain ⟨m', rfl⟩ : ∃ j, m' = j + 1 := ⟨m' - 1, by omega⟩
      have e2 : i = N := by omega
      subst e2
      refine ⟨sum, t, ?_, ?_⟩
      · simp (disch := omega) only [pX12_moreOf_108, n_lit, nI_add, nI_1, n_cl, gck_in, gck_t, gck_T, ↓gnm_e, gbd_s, ↓reduceIte, n_leT, n_leF, n_ltT, n_ltF, n_eqT, n_eqF, Nat.add_zero, Nat.zero_add]
      · simp (disch := omega) only [pX2_raise_7, n_lit, nI_add, nI_1, n_cl, gck_in, gck_t, gck_T, ↓gnm_e, gbd_s, ↓reduceIte, n_leT, n_leF, n_ltT, n_ltF, n_eqT, n_eqF, Nat.add_zero, Nat.zero_add, hN]
    | succ k ih =>
      intro m m' i t tr sum e h1 h2 ht
      obtain ⟨m, rfl⟩ : ∃ j, m = j + 1 := ⟨m - 1, by omega⟩
      obtain ⟨m', rfl⟩ : ∃ j, m' = j + 1 := ⟨m' - 1, by omega⟩
      have hiN : i < N := by omega
      have hdi := hD i (by omega)
      have hS := hst i hiN
      have IH := ih m m' (i + 1)
      generalize D i = d at *
      generalize D (i + 1) = d' at *
      rcases hS with ⟨w, h, x, hw, hh, hx, sv, sa, q0, q1, q2, sd, se⟩ | ⟨sv, sa, sd, se⟩ | ⟨sv, sa, sd, se⟩ | ⟨sv, sa, sd, se⟩ | ⟨x, hx, sv, sa, sb, sd, se⟩ | ⟨x, hx, sv, sa, sb, sd, se⟩
      · subst se
        obtain ⟨g, g1, g2, g3⟩ := hf w hw
        obtain ⟨v, t1, k1, k2⟩ := IH (upd t d (ib (tt h x g))) (tu tr d (tt h x g)) sum (by omega) (by omega) (by omega) (tw_put ht (Nat.le_refl _))
        refine ⟨v, t1, ?_, ?_⟩
        · rw [r_test hfr hiN sv rfl hw hh hx g2 g1 sd]; exact k1
        · rw [c_test (pb_31 tr hdi) hN hiN hNn hn2 sa hw hh hx q0 q1 q2 g3 g1, ← pb_tu]; exact k2
      · subst se
        obtain ⟨d, rfl⟩ : ∃ j, d' = j + 1 := ⟨d' - 1, by omega⟩
        have htd := ht d (by omega)
        obtain ⟨v, t1, k1, k2⟩ := IH (upd t d (ib (!tr d))) (tu tr d (!tr d)) sum (by omega) (by omega) (by omega) (tw_put ht (by omega))
        refine ⟨v, t1, ?_, ?_⟩
        · rw [r_not hfr hiN sv (by omega) htd]; exact k1
        · rw [pb_tu] at k2
          rw [pb, c_not (pb_31 tr (by omega)) hN hiN hNn hn2 sa]; exact k2
      · obtain ⟨c, rfl⟩ : ∃ j, d' = j + 1 := ⟨d' - 1, by omega⟩
        have ed : d = c + 1 + 1 := by omega
        subst ed
        have ht1 := ht c (by omega)
        have ht2 := ht (c + 1) (by omega)
        obtain ⟨v, t1, k1, k2⟩ := IH (upd t c (ib (tr c && tr (c + 1)))) (tu tr c (tr c && tr (c + 1))) sum (by omega) (by omega) (by omega) (tw_put ht (by omega))
        refine ⟨v, t1, ?_, ?_⟩
        · rw [r_and hfr hiN sv (by omega) ht1 ht2]; exact k1
        · rw [pb_tu] at k2
          have hp := pb_lt tr c
          have hp2 : pb tr c < 268435456 := Nat.lt_of_lt_of_le hp (Nat.pow_le_pow_right (by omega) (show c ≤ 28 by omega))
          rw [pb, pb, c_and hp2 hN hiN hNn hn2 sa]; exact k2
      · obtain ⟨c, rfl⟩ : ∃ j, d' = j + 1 := ⟨d' - 1, by omega⟩
        have ed : d = c + 1 + 1 := by omega
        subst ed
        have ht1 := ht c (by omega)
        have ht2 := ht (c + 1) (by omega)
        obtain ⟨v, t1, k1, k2⟩ := IH (upd t c (ib (tr c || tr (c + 1)))) (tu tr c (tr c || tr (c + 1))) sum (by omega) (by omega) (by omega) (tw_put ht (by omega))
        refine ⟨v, t1, ?_, ?_⟩
        · rw [r_or hfr hiN sv (by omega) ht1 ht2]; exact k1
        · rw [pb_tu] at k2
          have hp := pb_lt tr c
          have hp2 : pb tr c < 268435456 := Nat.lt_of_lt_of_le hp (Nat.pow_le_pow_right (by omega) (show c ≤ 28 by omega))
          rw [pb, pb, c_or hp2 hN hiN hNn hn2 sa]; exact k2
      · subst sd se
        have ht0 := ht 0 (by omega)
        obtain ⟨v, t1, k1, k2⟩ := IH t tr (sum + (if tr 0 = true then nI x else nI 0)) (by omega) (by omega) (by omega) (fun j hj => absurd hj (Nat.not_lt_zero _))
        refine ⟨v, t1, ?_, ?_⟩
        · rw [r_more hfr hiN hx sv ht0]; exact k1
        · rw [c_gain hN hiN hNn hn2 sa sb, show pb tr 1 = b1 (tr 0) from by simp [pb], z_gain]; exact k2
      · subst sd se
        have ht0 := ht 0 (by omega)
        obtain ⟨v, t1, k1, k2⟩ := IH t tr (sum + (if tr 0 = true then -nI x else nI 0)) (by omega) (by omega) (by omega) (fun j hj => absurd hj (Nat.not_lt_zero _))
        refine ⟨v, t1, ?_, ?_⟩
        · rw [r_less hfr hiN hx sv ht0]; exact k1
        · rw [c_gain hN hiN hNn hn2 sa sb, show pb tr 1 = b1 (tr 0) from by simp [pb], z_gain]; exact k2
  have := key N 1000 1000 0 t0 (fun _ => false) (nI 0) (by omega) (by omega) (by omega) (fun j hj => by rw [hD0] at hj; omega)
  rw [hD0] at this
  exact this
end RAISE
