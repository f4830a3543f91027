/-! PURE SIDE: house and chief as calls -/
theorem tells_ag2 {s t : Nat → Int32} (h56 : t 56 = s 56) (hv : s 56 = -nI 1 ∨ ∃ H, H < 5 ∧ s 56 = nI H) {k : Nat} (hk : 232 ≤ k) (hk2 : k < 900) (hg : ∀ H, H < 5 → s 56 = nI H → t (k + H) = s (k + H)) (d : Int32) : pX12_tellsOf t (nI k) d = pX12_tellsOf s (nI k) d := by
  unfold pX12_tellsOf
  rcases hv with e | ⟨H, hH, e⟩
  · simp (disch := omega) only [n_lit, nI_add, nI_1, n_cl, gck_in, gck_t, gck_T, ↓gnm_e, gbd_s, ↓reduceIte, n_leT, n_leF, n_ltT, n_ltF, n_eqT, n_eqF, Nat.add_zero, Nat.zero_add, h56, e]
  · have hkk := hg H hH e
    simp (disch := omega) only [n_lit, nI_add, nI_1, n_cl, gck_in, gck_t, gck_T, ↓gnm_e, gbd_s, ↓reduceIte, n_leT, n_leF, n_ltT, n_ltF, n_eqT, n_eqF, Nat.add_zero, Nat.zero_add, h56, e, z_peq, hkk]
theorem hr_ag2 {F : gF} {h : Nat} {s t : Nat → Int32} (h56 : t 56 = s 56) (hv : s 56 = -nI 1 ∨ ∃ H, H < 5 ∧ s 56 = nI H) (hg : ∀ H, H < 5 → s 56 = nI H → t (232 + H) = s (232 + H) ∧ t (237 + H) = s (237 + H) ∧ t (242 + H) = s (242 + H) ∧ t (247 + H) = s (247 + H) ∧ ∀ i, i < 100 → t (252 + 140 * H + i) = s (252 + 140 * H + i)) (hH : HR F h s) : HR F h t := by
  have e0 : pX12_told t 0 = pX12_told s 0 := by
    unfold pX12_told; rw [if_pos rfl, if_pos rfl, n_lit, tells_ag2 h56 hv (k := 232) (by decide) (by decide) (fun H h1 h2 => (hg H h1 h2).1)]
  have e1 : pX12_told t 1 = pX12_told s 1 := by
    unfold pX12_told; rw [if_neg (by decide), if_pos rfl, if_neg (by decide), if_pos rfl, n_lit, tells_ag2 h56 hv (k := 237) (by decide) (by decide) (fun H h1 h2 => (hg H h1 h2).2.1)]
  have e2 : pX12_told t 2 = pX12_told s 2 := by
    unfold pX12_told; rw [if_neg (by decide), if_neg (by decide), if_pos rfl, if_neg (by decide), if_neg (by decide), if_pos rfl, n_lit, tells_ag2 h56 hv (k := 242) (by decide) (by decide) (fun H h1 h2 => (hg H h1 h2).2.2.1)]
  have e3 : pX12_tellsOf t 247 0 = pX12_tellsOf s 247 0 := tells_ag2 h56 hv (k := 247) (by decide) (by decide) (fun H h1 h2 => (hg H h1 h2).2.2.2.1) 0
  obtain ⟨q0, q1, q2, q3, fr, N, q4, q5, q6⟩ := hH
  obtain ⟨p1, p2, p3, p4, p5, D, p6, p7, p8⟩ := q6
  refine ⟨q0, by rw [e0]; exact q1, by rw [e1]; exact q2, by rw [e2]; exact q3, fr, N, by rw [e3]; exact q4, by rw [h56]; exact q5, p1, p2, p3, p4, p5, D, p6, p7, fun i hi => ?_⟩
  have hst : t (fr + i) = s (fr + i) := by
    rcases hv with e | ⟨H, hH, e⟩
    · exfalso
      have hN : N = 0 := by
        have h9 : pX12_tellsOf s 247 0 = some (nI 0) := by
          unfold pX12_tellsOf
          simp (disch := omega) only [n_lit, nI_add, nI_1, n_cl, gck_in, gck_t, gck_T, ↓gnm_e, gbd_s, ↓reduceIte, n_leT, n_leF, n_ltT, n_ltF, n_eqT, n_eqF, Nat.add_zero, Nat.zero_add, e]
        have := Option.some.inj (h9.symm.trans q4)
        rw [n_eq (by omega) (by omega)] at this
        exact this.symm
      omega
    · have hfr : fr = 252 + 140 * H := by
        rw [e, pk_mul, nI_add, n_eq (by omega) (by omega)] at q5
        exact q5.symm
      rw [hfr]
      exact (hg H hH e).2.2.2.2 i (by omega)
  rw [hst]
  exact p8 i hi
section GAH
variable {E : gE} {F : gF}
def gAH (F : gF) (B : Nat) (I : Nat → Int32) (R : Nat → Nat) (a : Nat → Nat → Int32) (N : Nat) : gF := (F.1, F.2.1, F.2.2.1, F.2.2.2.1, F.2.2.2.2.1, (fun z => if z = B then true else F.2.2.2.2.2.1 z), (fun z => if z = B then I else F.2.2.2.2.2.2.1 z), (fun z => if z = B then R else F.2.2.2.2.2.2.2.1 z), (fun z => if z = B then a else F.2.2.2.2.2.2.2.2.1 z), (fun z => if z = B then N else F.2.2.2.2.2.2.2.2.2.1 z), F.2.2.2.2.2.2.2.2.2.2)
theorem gAH_at {B : Nat} {I : Nat → Int32} {R : Nat → Nat} {a : Nat → Nat → Int32} {N : Nat} : hsv (gAH F B I R a N) B = true ∧ (∀ k, hI (gAH F B I R a N) B k = I k) ∧ (∀ k, hr (gAH F B I R a N) B k = R k) ∧ (∀ k, ha (gAH F B I R a N) B k = a k) ∧ hn (gAH F B I R a N) B = N :=
  ⟨if_pos rfl, fun k => congrFun (if_pos rfl : (if B = B then I else F.2.2.2.2.2.2.1 B) = I) k, fun k => congrFun (if_pos rfl : (if B = B then R else F.2.2.2.2.2.2.2.1 B) = R) k, fun k => congrFun (if_pos rfl : (if B = B then a else F.2.2.2.2.2.2.2.2.1 B) = a) k, if_pos rfl⟩
theorem gAH_n {B b : Nat} {I : Nat → Int32} {R : Nat → Nat} {a : Nat → Nat → Int32} {N : Nat} (h : b ≠ B) : hsv (gAH F B I R a N) b = hsv F b ∧ (∀ k, hI (gAH F B I R a N) b k = hI F b k) ∧ (∀ k, hr (gAH F B I R a N) b k = hr F b k) ∧ (∀ k, ha (gAH F B I R a N) b k = ha F b k) ∧ hn (gAH F B I R a N) b = hn F b :=
  ⟨if_neg h, fun k => congrFun (if_neg h : (if b = B then I else F.2.2.2.2.2.2.1 b) = F.2.2.2.2.2.2.1 b) k, fun k => congrFun (if_neg h : (if b = B then R else F.2.2.2.2.2.2.2.1 b) = F.2.2.2.2.2.2.2.1 b) k, fun k => congrFun (if_neg h : (if b = B then a else F.2.2.2.2.2.2.2.2.1 b) = F.2.2.2.2.2.2.2.2.1 b) k, if_neg h⟩
theorem gAH_fz {B : Nat} {I : Nat → Int32} {R : Nat → Nat} {a : Nat → Nat → Int32} {N : Nat} (h : gFz E F) (hat : ∃ (tx : Value) (sz at_ fl : Int32), gfz E B = some (.inr (2, [.int (I 0), .int (I 1), .int (I 2), tx, .int sz, .int at_, .int fl, .ref (R 7), .ref (R 8), .ref (R 9), .int (I 10)]))) (harr : ∀ k : Nat, k = 7 ∨ k = 8 ∨ k = 9 → gfz E (R k) = some (.inl (gI E, N, .inl (a k)))) : gFz E (gAH F B I R a N) := by
  refine ⟨h.1, fun b hb => ?_⟩
  by_cases e : b = B
  · subst e
    obtain ⟨e1, e2, e3, e4, e5⟩ := gAH_at (F := F) (B := b) (I := I) (R := R) (a := a) (N := N)
    obtain ⟨tx, sz, at_, fl, h1⟩ := hat
    refine ⟨⟨tx, sz, at_, fl, ?_⟩, fun k hk => ?_⟩
    · rw [e2, e2, e2, e2, e3, e3, e3]; exact h1
    · rw [e3, e4, e5]; exact harr k hk
  · obtain ⟨e1, e2, e3, e4, e5⟩ := gAH_n (F := F) (B := B) (b := b) (I := I) (R := R) (a := a) (N := N) e
    rw [e1] at hb
    obtain ⟨⟨tx, sz, at_, fl, h1⟩, h2⟩ := h.2 b hb
    refine ⟨⟨tx, sz, at_, fl, ?_⟩, fun k hk => ?_⟩
    · rw [e2, e2, e2, e2, e3, e3, e3]; exact h1
    · rw [e3, e4, e5]; exact h2 k hk
theorem gAH_fe {B : Nat} {I : Nat → Int32} {R : Nat → Nat} {a : Nat → Nat → Int32} {N : Nat} (hB : ¬ hsv F B = true) : FE F (gAH F B I R a N) := by
  refine ⟨fun b hb => ⟨hb, rfl, rfl, rfl, rfl⟩, fun b hb => ?_, rfl⟩
  have e : b ≠ B := fun z => hB (by rw [← z]; exact hb)
  obtain ⟨e1, e2, e3, e4, e5⟩ := gAH_n (F := F) (B := B) (b := b) (I := I) (R := R) (a := a) (N := N) e
  exact ⟨e1.trans hb, e2, e4, e5⟩
end GAH
section MH
variable {F : gF} {o : Nat → Int32} {A : Nat → Nat → Int32} {Cf : Nat → Option Nat} {h : Nat} {s : Nat → Int32} {W C y Hn R T : Nat}
theorem m_chief (hS : SV s W C y Hn R T) (hR : WR F o A Cf h s) (x1 x2 x3 : Int32) : ∃ res, pX11_chief (o 1) x1 x2 x3 = some res ∧ ((∃ z, res = some z ∧ pX12_chief s x1 x2 x3 = some (z, s)) ∨ (res = none ∧ C < 4 ∧ ∃ k v d, k ≤ 6 ∧ v ≤ 9 ∧ d ≤ 9 ∧ x1 = nI k ∧ x2 = nI v ∧ x3 = nI d)) := by
  obtain ⟨⟨hW, h10, hC, h4, -⟩, -⟩ := id hS
  obtain ⟨-, e1, -⟩ := wr_o hS hR
  rw [e1]
  unfold pX11_chief pX12_chief
  rcases x_in x1 (n := 6) (by decide) with ⟨k, hk, rfl⟩ | hx1
  · have u1 : pX12_in (nI k) (nI 0) (nI 6) = some (nI 1) := in_nT (a := 0) (by omega) hk (by decide)
    have k0 : ¬ nI k < 0 := by rw [n_lit, n_lt (by omega) (by omega)]; omega
    have k7 : nI k < 7 := by rw [n_lit, n_lt (by omega) (by omega)]; omega
    rw [if_neg k0, if_pos k7]
    rcases x_in x2 (n := 9) (by decide) with ⟨v, hv, rfl⟩ | hx2
    · have u3 : pX12_in (nI v) (nI 0) (nI 9) = some (nI 1) := in_nT (a := 0) (by omega) hv (by decide)
      have w3 : pX11_isWithin (nI v) (nI 9) = some (nI 1) := wi_nT hv (by decide)
      rcases x_in x3 (n := 9) (by decide) with ⟨d, hd, rfl⟩ | hx3
      · have u5 : pX12_in (nI d) (nI 0) (nI 9) = some (nI 1) := in_nT (a := 0) (by omega) hd (by decide)
        have w5 : pX11_isWithin (nI d) (nI 9) = some (nI 1) := wi_nT hd (by decide)
        by_cases hf : C = 4
        · refine ⟨some (-nI 4), ?_, Or.inl ⟨-nI 4, rfl, ?_⟩⟩
          · simp (disch := omega) only [n_lit, nI_add, nI_1, n_cl, gck_in, gck_t, gck_T, ↓gnm_e, gbd_s, ↓reduceIte, n_leT, n_leF, n_ltT, n_ltF, n_eqT, n_eqF, Nat.add_zero, Nat.zero_add, w3, w5, hf]
          · simp (disch := omega) only [n_lit, nI_add, nI_1, n_cl, gck_in, gck_t, gck_T, ↓gnm_e, gbd_s, ↓reduceIte, n_leT, n_leF, n_ltT, n_ltF, n_eqT, n_eqF, Nat.add_zero, Nat.zero_add, u1, u3, u5, hC, hf]
        · refine ⟨none, ?_, Or.inr ⟨rfl, by omega, k, v, d, hk, hv, hd, rfl, rfl, rfl⟩⟩
          simp (disch := omega) only [n_lit, nI_add, nI_1, n_cl, gck_in, gck_t, gck_T, ↓gnm_e, gbd_s, ↓reduceIte, n_leT, n_leF, n_ltT, n_ltF, n_eqT, n_eqF, Nat.add_zero, Nat.zero_add, w3, w5]
      · have u5 : pX12_in x3 (nI 0) (nI 9) = some (nI 0) := in_f hx3
        have w5 : pX11_isWithin x3 (nI 9) = some (nI 0) := wi_f hx3
        refine ⟨some (-nI 2), ?_, Or.inl ⟨-nI 2, rfl, ?_⟩⟩
        · simp (disch := omega) only [n_lit, nI_add, nI_1, n_cl, gck_in, gck_t, gck_T, ↓gnm_e, gbd_s, ↓reduceIte, n_leT, n_leF, n_ltT, n_ltF, n_eqT, n_eqF, Nat.add_zero, Nat.zero_add, w3, w5]
        · simp (disch := omega) only [n_lit, nI_add, nI_1, n_cl, gck_in, gck_t, gck_T, ↓gnm_e, gbd_s, ↓reduceIte, n_leT, n_leF, n_ltT, n_ltF, n_eqT, n_eqF, Nat.add_zero, Nat.zero_add, u1, u3, u5]
    · have u3 : pX12_in x2 (nI 0) (nI 9) = some (nI 0) := in_f hx2
      have w3 : pX11_isWithin x2 (nI 9) = some (nI 0) := wi_f hx2
      refine ⟨some (-nI 2), ?_, Or.inl ⟨-nI 2, rfl, ?_⟩⟩
      · simp (disch := omega) only [n_lit, nI_add, nI_1, n_cl, gck_in, gck_t, gck_T, ↓gnm_e, gbd_s, ↓reduceIte, n_leT, n_leF, n_ltT, n_ltF, n_eqT, n_eqF, Nat.add_zero, Nat.zero_add, w3]
      · simp (disch := omega) only [n_lit, nI_add, nI_1, n_cl, gck_in, gck_t, gck_T, ↓gnm_e, gbd_s, ↓reduceIte, n_leT, n_leF, n_ltT, n_ltF, n_eqT, n_eqF, Nat.add_zero, Nat.zero_add, u1, u3]
  · have u1 : pX12_in x1 (nI 0) (nI 6) = some (nI 0) := in_f hx1
    refine ⟨some (-nI 1), ?_, Or.inl ⟨-nI 1, rfl, ?_⟩⟩
    · rcases hx1 with z | z
      · rw [if_pos (show x1 < 0 from z)]; rfl
      · by_cases y0 : x1 < 0
        · rw [if_pos y0]; rfl
        · have z7 : ¬ x1 < 7 := fun q => by
            rcases x_lt x1 (n := 7) (by decide) with ⟨j, hj, e⟩ | q2
            · subst e
              rw [n_lt (by omega) (by omega)] at z
              omega
            · rcases q2 with q2 | q2
              · exact y0 q2
              · exact (Int32.not_le.mpr q) q2
          rw [if_neg y0, if_neg z7]; rfl
    · rw [show (0 : Int32) = nI 0 from rfl, show (6 : Int32) = nI 6 from rfl, u1, gbd_s, if_pos rfl]; rfl
theorem m_house (hS : SV s W C y Hn R T) (hR : WR F o A Cf h s) (o5 o6 o7 o8 o9 : Int32) : (Hn = 5 ∧ pX12_house s o5 o6 o7 o8 o9 = some (-4, s, o5, o6, o7, o8, o9)) ∨ (Hn < 5 ∧ ∃ (rc : RdC) (rr : RdR), pX2_read T (A 17) (nI T) (fun _ => 0) (fun _ => 0) (fun _ => 0) 10 0 10 0 0 0 = some rc ∧ pX12_house s o5 o6 o7 o8 o9 = some rr ∧ ((¬ rc.1 < 0 ∧ rr.1 = -10 - rc.1 ∧ SW F (gu o 4 0) A Cf h rr.2.1) ∨ (rc.1 < 0 ∧ rr.1 = o 2 + 1 - 1 ∧ ∀ (F' : gF) (h' : Nat), FE F F' → hsv F' h' = true → hI F' h' 0 = rc.2.2.2.2.1 → hI F' h' 1 = rc.2.2.2.2.2.1 → hI F' h' 2 = rc.2.2.2.2.2.2.1 → hI F' h' 10 = rc.2.2.2.2.2.2.2.2.2 → hn F' h' = T → ha F' h' 7 = rc.2.1 → ha F' h' 8 = rc.2.2.1 → ha F' h' 9 = rc.2.2.2.1 → SW F' (gu (gu o 4 0) 2 (o 2 + 1)) A Cf h' rr.2.1))) := by
  obtain ⟨⟨e0, e1, e2, e3, e4, e5, e6, e7⟩, r2, r3, r4, r5, r6, r7⟩ := id hR
  obtain ⟨⟨hW, h10, hC, h4, hy0, hy2, hV0, hK⟩, hy9, s53, h5, s54, h20, s55, h100, n1, n2, hB, hT, h56⟩ := id hS
  by_cases hf : Hn = 5
  · left
    refine ⟨hf, ?_⟩
    unfold pX12_house
    simp (disch := omega) only [n_lit, nI_add, nI_1, n_cl, gck_in, gck_t, gck_T, ↓gnm_e, gbd_s, ↓reduceIte, n_leT, n_leF, n_ltT, n_ltF, n_eqT, n_eqF, Nat.add_zero, Nat.zero_add, s53, hf]
  · right
    have hH5 : Hn < 5 := by omega
    refine ⟨hH5, ?_⟩
    have hr0 : pX12_house s o5 o6 o7 o8 o9 = gbd (pX12_clauseHere (nI Hn) (nI T) (upd (upd (upd (upd (upd s 55 (nI 0)) (232 + Hn) (nI 10)) (237 + Hn) (nI 0)) (242 + Hn) (nI 10)) (247 + Hn) (nI 0)) (nI 0) (nI 0) (nI 0)) (fun z => pX12_house_123 1000 z.1 (nI Hn) z.2.1 (nI T) z.2.2.1 z.2.2.2 (nI 1)) := by
      unfold pX12_house
      simp (disch := omega) only [n_lit, nI_add, nI_1, n_cl, gck_in, gck_t, gck_T, ↓gnm_e, gbd_s, ↓reduceIte, n_leT, n_leF, n_ltT, n_ltF, n_eqT, n_eqF, Nat.add_zero, Nat.zero_add, s53, s55, pk_un]
    have hag1 : ∀ j, j ≠ 55 → j ≠ 232 + Hn → j ≠ 237 + Hn → j ≠ 242 + Hn → j ≠ 247 + Hn → upd (upd (upd (upd (upd s 55 (nI 0)) (232 + Hn) (nI 10)) (237 + Hn) (nI 0)) (242 + Hn) (nI 10)) (247 + Hn) (nI 0) j = s j := fun j q1 q2 q3 q4 q5 => by rw [pk_un q5, pk_un q4, pk_un q3, pk_un q2, pk_un q1]
    have a55 : upd (upd (upd (upd (upd s 55 (nI 0)) (232 + Hn) (nI 10)) (237 + Hn) (nI 0)) (242 + Hn) (nI 10)) (247 + Hn) (nI 0) 55 = nI 0 := by rw [pk_un (by omega), pk_un (by omega), pk_un (by omega), pk_un (by omega), pk_us]
    have a232 : upd (upd (upd (upd (upd s 55 (nI 0)) (232 + Hn) (nI 10)) (237 + Hn) (nI 0)) (242 + Hn) (nI 10)) (247 + Hn) (nI 0) (232 + Hn) = nI 10 := by rw [pk_un (by omega), pk_un (by omega), pk_un (by omega), pk_us]
    have a237 : upd (upd (upd (upd (upd s 55 (nI 0)) (232 + Hn) (nI 10)) (237 + Hn) (nI 0)) (242 + Hn) (nI 10)) (247 + Hn) (nI 0) (237 + Hn) = nI 0 := by rw [pk_un (by omega), pk_un (by omega), pk_us]
    have a242 : upd (upd (upd (upd (upd s 55 (nI 0)) (232 + Hn) (nI 10)) (237 + Hn) (nI 0)) (242 + Hn) (nI 10)) (247 + Hn) (nI 0) (242 + Hn) = nI 10 := by rw [pk_un (by omega), pk_us]
    have a247 : upd (upd (upd (upd (upd s 55 (nI 0)) (232 + Hn) (nI 10)) (237 + Hn) (nI 0)) (242 + Hn) (nI 10)) (247 + Hn) (nI 0) (247 + Hn) = nI 0 := pk_us
    generalize upd (upd (upd (upd (upd s 55 (nI 0)) (232 + Hn) (nI 10)) (237 + Hn) (nI 0)) (242 + Hn) (nI 10)) (247 + Hn) (nI 0) = s1 at *
    have hTP : TPR s1 (fun j => nn (s (132 + j))) T := ⟨h100, fun j hj => by
      obtain ⟨tt, t1, t2⟩ := hT j (by omega)
      have e : nn (s (132 + j)) = tt := by unfold nn; rw [t2, n_cl (by omega)]
      show s1 (132 + j) = nI (nn (s (132 + j))) ∧ nn (s (132 + j)) ≤ 127
      rw [e, hag1 (132 + j) (by omega) (by omega) (by omega) (by omega) (by omega)]
      exact ⟨t2, t1⟩⟩
    have h3 : ∀ j, j < T → A 17 j = nI ((fun j => nn (s (132 + j))) j) := fun j hj => by
      rw [r4 j (by omega), ← (hTP.2 j hj).1, hag1 (132 + j) (by omega) (by omega) (by omega) (by omega) (by omega)]
    obtain ⟨rr, rc, i1, i2, i3⟩ := rd_loop (act := Hn) (by omega) h3 9 1 1000 1000 s1 (fun _ => 0) (fun _ => 0) (fun _ => 0) (nI 10) (nI 0) (nI 10) 0 0 rfl (by decide) (by decide) (by decide) hTP (Nat.zero_le _) (Nat.le_refl _) ⟨a247, fun _ => 0, rfl, rfl, fun _ _ => Nat.zero_le _, fun i hi => absurd hi (Nat.not_lt_zero _)⟩ ⟨⟨10, by decide, a232, rfl⟩, ⟨0, by decide, a237, rfl⟩, ⟨10, by decide, a242, rfl⟩⟩
    refine ⟨rc, rr, i2, hr0.trans i1, ?_⟩
    have hv := sv_56 hS
    have hHH : ∀ H, H < 5 → s 56 = nI H → H < Hn := fun H q1 q2 => by
      rw [h56] at q2
      by_cases z : Hn = 0
      · rw [if_pos z] at q2
        exfalso
        have := z_peq (a := H) (b := 1) (by omega) (by omega) (by omega)
        first
          | exact (of_eq_false this) q2.symm
          | exact this q2.symm
          | (rw [eq_comm, this] at q2; exact q2)
          | (rw [this] at q2; exact q2)
      · rw [if_neg z, n_eq (by omega) (by omega)] at q2
        omega
    rcases i3 with ⟨p', q1, q2, q3, q4⟩ | ⟨b1, n', q1, q2, q3, q4, q5, q6, q7, q8⟩
    · left
      refine ⟨by rw [q3, n_lit, n_lt (by omega) (by omega)]; omega, by rw [q2, q3], ?_⟩
      generalize rr.2.1 = t at *
      have hg0 : ∀ k, k < 232 → k ≠ 55 → t k = s k := fun k h1 h2 => (q4 k (by omega) (by omega) (by omega) (by omega) (by omega)).trans (hag1 k h2 (by omega) (by omega) (by omega) (by omega))
      have t55 : t 55 = nI 0 := (q4 55 (by omega) (by omega) (by omega) (by omega) (by omega)).trans a55
      refine ⟨⟨W, C, y, Hn, R, 0, ?_⟩, ?_⟩
      · refine ⟨⟨(hg0 51 (by omega) (by omega)).trans hW, h10, (hg0 52 (by omega) (by omega)).trans hC, h4, (hg0 0 (by omega) (by omega)).trans hy0, hy2, fun w hw => wv_ag (by omega) (fun k hk => hg0 k (by omega) (by omega)) (Nat.le_refl _) (hV0 w hw), fun c hc => cv_ag (by omega) (fun k h1 h2 => hg0 k (by omega) (by omega)) (hK c hc)⟩, hy9, (hg0 53 (by omega) (by omega)).trans s53, h5, (hg0 54 (by omega) (by omega)).trans s54, h20, t55, Nat.zero_le _, ?_, ?_, fun r hr => rv_ag (fun k hk => hg0 k (by omega) (by omega)) (Nat.le_refl _) (Nat.le_refl _) (hB r hr), fun j hj => ?_, (hg0 56 (by omega) (by omega)).trans h56⟩
        · obtain ⟨a, x1, x2⟩ := n1; exact ⟨a, x1, (hg0 _ (by omega) (by omega)).trans x2⟩
        · obtain ⟨a, x1, x2⟩ := n2; exact ⟨a, x1, (hg0 _ (by omega) (by omega)).trans x2⟩
        · obtain ⟨a, x1, x2⟩ := hT j hj; exact ⟨a, x1, (hg0 _ (by omega) (by omega)).trans x2⟩
      · refine ⟨⟨e0.trans (hg0 51 (by omega) (by omega)).symm, e1.trans (hg0 52 (by omega) (by omega)).symm, e2.trans (hg0 53 (by omega) (by omega)).symm, e3.trans (hg0 54 (by omega) (by omega)).symm, t55.symm, e5.trans (hg0 0 (by omega) (by omega)).symm, e6.trans (hg0 57 (by omega) (by omega)).symm, e7.trans (hg0 58 (by omega) (by omega)).symm⟩, fun w hw => ?_, fun r hr => ?_, fun j hj => ?_, fun c hc => ?_, r6, hr_ag2 (hg0 56 (by omega) (by omega)) hv (fun H z1 z2 => ?_) r7⟩
        · simp (disch := omega) only [hg0]; exact r2 w hw
        · simp (disch := omega) only [hg0]; exact r3 r hr
        · simp (disch := omega) only [hg0]; exact r4 j hj
        · rw [hg0 52 (by omega) (by omega)] at hc
          obtain ⟨b, b1, b2⟩ := r5 c hc
          have : nn (s 52) ≤ 4 := by rw [sv_nC hS]; exact hS.1.2.2.2.1
          exact ⟨b, b1, ch_ag (by omega) (fun k h1 h2 => hg0 k (by omega) (by omega)) b2⟩
        · have := hHH H z1 z2
          exact ⟨(q4 _ (by omega) (by omega) (by omega) (by omega) (by omega)).trans (hag1 _ (by omega) (by omega) (by omega) (by omega) (by omega)), (q4 _ (by omega) (by omega) (by omega) (by omega) (by omega)).trans (hag1 _ (by omega) (by omega) (by omega) (by omega) (by omega)), (q4 _ (by omega) (by omega) (by omega) (by omega) (by omega)).trans (hag1 _ (by omega) (by omega) (by omega) (by omega) (by omega)), (q4 _ (by omega) (by omega) (by omega) (by omega) (by omega)).trans (hag1 _ (by omega) (by omega) (by omega) (by omega) (by omega)), fun i hi => (q4 _ (by omega) (by omega) (by omega) (by omega) (by omega)).trans (hag1 _ (by omega) (by omega) (by omega) (by omega) (by omega))⟩
    · right
      have b53 : b1 53 = nI Hn := (q3 53 (by omega) (by omega) (by omega) (by omega) (by omega)).trans ((hag1 53 (by omega) (by omega) (by omega) (by omega) (by omega)).trans s53)
      refine ⟨by rw [q4]; decide, by rw [q1, e2, s53, nI_1, n_lit, pk_sub (by omega)]; rfl, fun F' h' hFE g1 g2 g3 g4 g5 g6 g7 g8 g9 => ?_⟩
      rw [q2]
      obtain ⟨⟨f0, f01, f02, f03⟩, ⟨f1, f11, f12, f13⟩, ⟨f2, f21, f22, f23⟩⟩ := q8
      obtain ⟨ss1, D, ss2, ss3, ss4, ss5⟩ := q7
      rw [b53, nI_1]
      have t53 : upd (upd b1 53 (nI (Hn + 1))) 56 (nI Hn) 53 = nI (Hn + 1) := by rw [pk_un (by omega), pk_us]
      have t56 : upd (upd b1 53 (nI (Hn + 1))) 56 (nI Hn) 56 = nI Hn := pk_us
      have hgb : ∀ k, k ≠ 53 → k ≠ 56 → upd (upd b1 53 (nI (Hn + 1))) 56 (nI Hn) k = b1 k := fun k h1 h2 => by rw [pk_un h2, pk_un h1]
      generalize upd (upd b1 53 (nI (Hn + 1))) 56 (nI Hn) = t at *
      have hg0 : ∀ k, k < 232 → k ≠ 55 → k ≠ 53 → k ≠ 56 → t k = s k := fun k h1 h2 h3 h4 => (hgb k h3 h4).trans ((q3 k (by omega) (by omega) (by omega) (by omega) (by omega)).trans (hag1 k h2 (by omega) (by omega) (by omega) (by omega)))
      have t55 : t 55 = nI 0 := (hgb 55 (by omega) (by omega)).trans ((q3 55 (by omega) (by omega) (by omega) (by omega) (by omega)).trans a55)
      refine ⟨⟨W, C, y, Hn + 1, R, 0, ?_⟩, ?_⟩
      · refine ⟨⟨(hg0 51 (by omega) (by omega) (by omega) (by omega)).trans hW, h10, (hg0 52 (by omega) (by omega) (by omega) (by omega)).trans hC, h4, (hg0 0 (by omega) (by omega) (by omega) (by omega)).trans hy0, hy2, fun w hw => wv_ag (by omega) (fun k hk => hg0 k (by omega) (by omega) (by omega) (by omega)) (Nat.le_refl _) (hV0 w hw), fun c hc => cv_ag (by omega) (fun k h1 h2 => hg0 k (by omega) (by omega) (by omega) (by omega)) (hK c hc)⟩, hy9, t53, by omega, (hg0 54 (by omega) (by omega) (by omega) (by omega)).trans s54, h20, t55, Nat.zero_le _, ?_, ?_, fun r hr => rv_ag (fun k hk => hg0 k (by omega) (by omega) (by omega) (by omega)) (Nat.le_refl _) (Nat.le_refl _) (hB r hr), fun j hj => ?_, by rw [t56, if_neg (by omega)]; rfl⟩
        · obtain ⟨a, x1, x2⟩ := n1; exact ⟨a, x1, (hg0 _ (by omega) (by omega) (by omega) (by omega)).trans x2⟩
        · obtain ⟨a, x1, x2⟩ := n2; exact ⟨a, x1, (hg0 _ (by omega) (by omega) (by omega) (by omega)).trans x2⟩
        · obtain ⟨a, x1, x2⟩ := hT j hj; exact ⟨a, x1, (hg0 _ (by omega) (by omega) (by omega) (by omega)).trans x2⟩
      · have hR' := fe_wr hFE hR
        obtain ⟨-, -, -, -, r5', r6', -⟩ := hR'
        refine ⟨⟨e0.trans (hg0 51 (by omega) (by omega) (by omega) (by omega)).symm, e1.trans (hg0 52 (by omega) (by omega) (by omega) (by omega)).symm, ?_, e3.trans (hg0 54 (by omega) (by omega) (by omega) (by omega)).symm, t55.symm, e5.trans (hg0 0 (by omega) (by omega) (by omega) (by omega)).symm, e6.trans (hg0 57 (by omega) (by omega) (by omega) (by omega)).symm, e7.trans (hg0 58 (by omega) (by omega) (by omega) (by omega)).symm⟩, fun w hw => ?_, fun r hr => ?_, fun j hj => ?_, fun c hc => ?_, r6', ?_⟩
        · show o 2 + 1 = t 53
          rw [t53, e2, s53, nI_1]
        · simp (disch := omega) only [hg0]; exact r2 w hw
        · simp (disch := omega) only [hg0]; exact r3 r hr
        · simp (disch := omega) only [hg0]; exact r4 j hj
        · rw [hg0 52 (by omega) (by omega) (by omega) (by omega)] at hc
          obtain ⟨b, b1, b2⟩ := r5' c hc
          have : nn (s 52) ≤ 4 := by rw [sv_nC hS]; exact hS.1.2.2.2.1
          exact ⟨b, b1, ch_ag (by omega) (fun k h1 h2 => hg0 k (by omega) (by omega) (by omega) (by omega)) b2⟩
        · have hte : ∀ (k : Nat) (dd : Int32) (f : Nat), 57 ≤ k → k < 900 → b1 (k + Hn) = nI f → pX12_tellsOf t (nI k) dd = some (nI f) := fun k dd f k1 k2 k3 => by
            have k4 : t (k + Hn) = nI f := (hgb (k + Hn) (by omega) (by omega)).trans k3
            unfold pX12_tellsOf
            simp (disch := omega) only [n_lit, nI_add, nI_1, n_cl, gck_in, gck_t, gck_T, ↓gnm_e, gbd_s, ↓reduceIte, n_leT, n_leF, n_ltT, n_ltF, n_eqT, n_eqF, Nat.add_zero, Nat.zero_add, t56, z_peq, k4]
          refine ⟨g1, ⟨f0, f01, ?_, g2.trans f03⟩, ⟨f1, f11, ?_, g3.trans f13⟩, ⟨f2, f21, ?_, g4.trans f23⟩, 252 + 140 * Hn, n', hte 247 0 n' (by omega) (by omega) ss1, by rw [t56, pk_mul, nI_add], g5.trans q6, by rw [g6]; exact q5, by rw [g6]; exact h100, by omega, Or.inr (by omega), D, ss2, ss4, fun i hi => ?_⟩
          · unfold pX12_told; rw [if_pos rfl, n_lit, hte 232 _ f0 (by omega) (by omega) f02, gbd_s]
          · unfold pX12_told; rw [if_neg (by decide), if_pos rfl, n_lit, hte 237 _ f1 (by omega) (by omega) f12, gbd_s]
          · unfold pX12_told; rw [if_neg (by decide), if_neg (by decide), if_pos rfl, n_lit, hte 242 _ f2 (by omega) (by omega) f22, gbd_s]
          · rw [g7, g8, g9, hgb _ (by omega) (by omega)]
            exact ss5 i hi
end MH
