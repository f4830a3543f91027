/-! PURE SIDE: acts, kinds -/
section ACT
variable {F : gF} {o : Nat → Int32} {A : Nat → Nat → Int32} {Cf : Nat → Option Nat} {h : Nat} {s : Nat → Int32} {W C y Hn R T : Nat}
theorem tr_0 {ta a17 : Nat → Int32} : TR (nI 0) ta (nI 0) a17 := ⟨0, by omega, rfl, rfl, ar_0⟩
theorem m_act (hS : SV s W C y Hn R T) (hR : WR F o A Cf h s) {tb0 : Int32} {ta a17 : Nat → Int32} {o18 o19 o20 o21 : Int32} (x1 x2 x3 : Int32) : ∃ v t1 ta1 b17 b18 b19 b20 b21, pX11_act F (o 1) Cf tb0 ta x1 x2 x3 = some (v, t1, ta1) ∧ pX12_act s a17 o18 o19 o20 o21 x1 x2 x3 = some (v, b17, b18, b19, b20, b21) ∧ TR t1 ta1 b18 b17 := by
  have hI := hS.1
  obtain ⟨hW, h10, hC, h4, hy, hy2, hV, hK⟩ := id hI
  obtain ⟨-, e1, -⟩ := wr_o hS hR
  rw [e1]
  unfold pX11_act pX12_act
  rcases x_lt x1 (n := C) (by omega) with ⟨c, hc, rfl⟩ | hx
  · obtain ⟨b, hb, c1, c2, c3, c4, c5⟩ := wr_cfs hS hR c hc
    obtain ⟨k, v, d, q1, q2, q3, f1, f2, f3⟩ := hK c hc
    have z1 := c_chief h4 hc hb
    have z2 := isc_t hC h4 hc
    rw [f1] at c2
    rw [f2] at c4
    rcases x_in x2 (n := 2) (by decide) with ⟨j, hj, rfl⟩ | hx2
    · have hin : pX12_in (nI j) (nI 0) (nI 2) = some (nI 1) := in_nT (a := 0) (by omega) hj (by decide)
      rcases (show k = 0 ∨ k = 1 ∨ k = 2 ∨ k = 3 ∨ k = 4 ∨ k = 5 ∨ k = 6 by omega) with e | e | e | e | e | e | e <;> subst e
      · rcases (show j = 0 ∨ j = 1 ∨ j = 2 by omega) with e | e | e <;> subst e
        · exact ⟨_, _, _, _, _, _, _, _, by simp (disch := omega) only [pX0_works_k0, pX0_grades_k0, pX0_levels_k0, n_lit, nI_add, nI_1, n_cl, gck_in, gck_t, gck_T, ↓gnm_e, gbd_s, ↓reduceIte, n_leT, n_leF, n_ltT, n_ltF, n_eqT, n_eqF, Nat.add_zero, Nat.zero_add, z1, gmt_s, c1, c2, c3, c4, bg_c]; exact rfl, by simp (disch := omega) only [pX12_worksActs, pX12_gradesActs, pX12_levelsActs, pX12_plainWorks, pX12_plainGrades, pX12_plainLevels, ru_t, ru_f, bg_r, n_lit, nI_add, nI_1, n_cl, gck_in, gck_t, gck_T, ↓gnm_e, gbd_s, ↓reduceIte, n_leT, n_leF, n_ltT, n_ltF, n_eqT, n_eqF, Nat.add_zero, Nat.zero_add, z2, hin, f1, f2]; exact rfl, _, by decide, rfl, rfl, by repeat (first | exact ar_0 | apply ar_s)⟩
        · exact ⟨_, _, _, _, _, _, _, _, by simp (disch := omega) only [pX0_works_k0, pX0_grades_k0, pX0_levels_k0, n_lit, nI_add, nI_1, n_cl, gck_in, gck_t, gck_T, ↓gnm_e, gbd_s, ↓reduceIte, n_leT, n_leF, n_ltT, n_ltF, n_eqT, n_eqF, Nat.add_zero, Nat.zero_add, z1, gmt_s, c1, c2, c3, c4, bg_c]; exact rfl, by simp (disch := omega) only [pX12_worksActs, pX12_gradesActs, pX12_levelsActs, pX12_plainWorks, pX12_plainGrades, pX12_plainLevels, ru_t, ru_f, bg_r, n_lit, nI_add, nI_1, n_cl, gck_in, gck_t, gck_T, ↓gnm_e, gbd_s, ↓reduceIte, n_leT, n_leF, n_ltT, n_ltF, n_eqT, n_eqF, Nat.add_zero, Nat.zero_add, z2, hin, f1, f2]; exact rfl, _, by decide, rfl, rfl, by repeat (first | exact ar_0 | apply ar_s)⟩
        · exact ⟨_, _, _, _, _, _, _, _, by simp (disch := omega) only [pX0_works_k0, pX0_grades_k0, pX0_levels_k0, n_lit, nI_add, nI_1, n_cl, gck_in, gck_t, gck_T, ↓gnm_e, gbd_s, ↓reduceIte, n_leT, n_leF, n_ltT, n_ltF, n_eqT, n_eqF, Nat.add_zero, Nat.zero_add, z1, gmt_s, c1, c2, c3, c4, bg_c]; exact rfl, by simp (disch := omega) only [pX12_worksActs, pX12_gradesActs, pX12_levelsActs, pX12_plainWorks, pX12_plainGrades, pX12_plainLevels, ru_t, ru_f, bg_r, n_lit, nI_add, nI_1, n_cl, gck_in, gck_t, gck_T, ↓gnm_e, gbd_s, ↓reduceIte, n_leT, n_leF, n_ltT, n_ltF, n_eqT, n_eqF, Nat.add_zero, Nat.zero_add, z2, hin, f1, f2]; exact rfl, _, by decide, rfl, rfl, by repeat (first | exact ar_0 | apply ar_s)⟩
      · rcases (show j = 0 ∨ j = 1 ∨ j = 2 by omega) with e | e | e <;> subst e
        · exact ⟨_, _, _, _, _, _, _, _, by simp (disch := omega) only [pX0_works_k1, pX5_works_k1, pX0_grades_k1, pX0_levels_k1, n_lit, nI_add, nI_1, n_cl, gck_in, gck_t, gck_T, ↓gnm_e, gbd_s, ↓reduceIte, n_leT, n_leF, n_ltT, n_ltF, n_eqT, n_eqF, Nat.add_zero, Nat.zero_add, z1, gmt_s, c1, c2, c3, c4, bg_c]; exact rfl, by simp (disch := omega) only [pX12_worksActs, pX12_gradesActs, pX12_levelsActs, pX12_plainWorks, pX12_plainGrades, pX12_plainLevels, ru_t, ru_f, bg_r, n_lit, nI_add, nI_1, n_cl, gck_in, gck_t, gck_T, ↓gnm_e, gbd_s, ↓reduceIte, n_leT, n_leF, n_ltT, n_ltF, n_eqT, n_eqF, Nat.add_zero, Nat.zero_add, z2, hin, f1, f2]; exact rfl, _, by decide, rfl, rfl, by repeat (first | exact ar_0 | apply ar_s)⟩
        · exact ⟨_, _, _, _, _, _, _, _, by simp (disch := omega) only [pX0_works_k1, pX5_works_k1, pX0_grades_k1, pX0_levels_k1, n_lit, nI_add, nI_1, n_cl, gck_in, gck_t, gck_T, ↓gnm_e, gbd_s, ↓reduceIte, n_leT, n_leF, n_ltT, n_ltF, n_eqT, n_eqF, Nat.add_zero, Nat.zero_add, z1, gmt_s, c1, c2, c3, c4, bg_c]; exact rfl, by simp (disch := omega) only [pX12_worksActs, pX12_gradesActs, pX12_levelsActs, pX12_plainWorks, pX12_plainGrades, pX12_plainLevels, ru_t, ru_f, bg_r, n_lit, nI_add, nI_1, n_cl, gck_in, gck_t, gck_T, ↓gnm_e, gbd_s, ↓reduceIte, n_leT, n_leF, n_ltT, n_ltF, n_eqT, n_eqF, Nat.add_zero, Nat.zero_add, z2, hin, f1, f2]; exact rfl, _, by decide, rfl, rfl, by repeat (first | exact ar_0 | apply ar_s)⟩
        · exact ⟨_, _, _, _, _, _, _, _, by simp (disch := omega) only [pX0_works_k1, pX5_works_k1, pX0_grades_k1, pX0_levels_k1, n_lit, nI_add, nI_1, n_cl, gck_in, gck_t, gck_T, ↓gnm_e, gbd_s, ↓reduceIte, n_leT, n_leF, n_ltT, n_ltF, n_eqT, n_eqF, Nat.add_zero, Nat.zero_add, z1, gmt_s, c1, c2, c3, c4, bg_c]; exact rfl, by simp (disch := omega) only [pX12_worksActs, pX12_gradesActs, pX12_levelsActs, pX12_plainWorks, pX12_plainGrades, pX12_plainLevels, ru_t, ru_f, bg_r, n_lit, nI_add, nI_1, n_cl, gck_in, gck_t, gck_T, ↓gnm_e, gbd_s, ↓reduceIte, n_leT, n_leF, n_ltT, n_ltF, n_eqT, n_eqF, Nat.add_zero, Nat.zero_add, z2, hin, f1, f2]; exact rfl, _, by decide, rfl, rfl, by repeat (first | exact ar_0 | apply ar_s)⟩
      · rcases (show j = 0 ∨ j = 1 ∨ j = 2 by omega) with e | e | e <;> subst e
        · exact ⟨_, _, _, _, _, _, _, _, by simp (disch := omega) only [pX0_works_k2, pX0_grades_k2, pX9_grades_k2, pX0_levels_k2, n_lit, nI_add, nI_1, n_cl, gck_in, gck_t, gck_T, ↓gnm_e, gbd_s, ↓reduceIte, n_leT, n_leF, n_ltT, n_ltF, n_eqT, n_eqF, Nat.add_zero, Nat.zero_add, z1, gmt_s, c1, c2, c3, c4, bg_c]; exact rfl, by simp (disch := omega) only [pX12_worksActs, pX12_gradesActs, pX12_levelsActs, pX12_plainWorks, pX12_plainGrades, pX12_plainLevels, ru_t, ru_f, bg_r, n_lit, nI_add, nI_1, n_cl, gck_in, gck_t, gck_T, ↓gnm_e, gbd_s, ↓reduceIte, n_leT, n_leF, n_ltT, n_ltF, n_eqT, n_eqF, Nat.add_zero, Nat.zero_add, z2, hin, f1, f2]; exact rfl, _, by decide, rfl, rfl, by repeat (first | exact ar_0 | apply ar_s)⟩
        · exact ⟨_, _, _, _, _, _, _, _, by simp (disch := omega) only [pX0_works_k2, pX0_grades_k2, pX9_grades_k2, pX0_levels_k2, n_lit, nI_add, nI_1, n_cl, gck_in, gck_t, gck_T, ↓gnm_e, gbd_s, ↓reduceIte, n_leT, n_leF, n_ltT, n_ltF, n_eqT, n_eqF, Nat.add_zero, Nat.zero_add, z1, gmt_s, c1, c2, c3, c4, bg_c]; exact rfl, by simp (disch := omega) only [pX12_worksActs, pX12_gradesActs, pX12_levelsActs, pX12_plainWorks, pX12_plainGrades, pX12_plainLevels, ru_t, ru_f, bg_r, n_lit, nI_add, nI_1, n_cl, gck_in, gck_t, gck_T, ↓gnm_e, gbd_s, ↓reduceIte, n_leT, n_leF, n_ltT, n_ltF, n_eqT, n_eqF, Nat.add_zero, Nat.zero_add, z2, hin, f1, f2]; exact rfl, _, by decide, rfl, rfl, by repeat (first | exact ar_0 | apply ar_s)⟩
        · exact ⟨_, _, _, _, _, _, _, _, by simp (disch := omega) only [pX0_works_k2, pX0_grades_k2, pX9_grades_k2, pX0_levels_k2, n_lit, nI_add, nI_1, n_cl, gck_in, gck_t, gck_T, ↓gnm_e, gbd_s, ↓reduceIte, n_leT, n_leF, n_ltT, n_ltF, n_eqT, n_eqF, Nat.add_zero, Nat.zero_add, z1, gmt_s, c1, c2, c3, c4, bg_c]; exact rfl, by simp (disch := omega) only [pX12_worksActs, pX12_gradesActs, pX12_levelsActs, pX12_plainWorks, pX12_plainGrades, pX12_plainLevels, ru_t, ru_f, bg_r, n_lit, nI_add, nI_1, n_cl, gck_in, gck_t, gck_T, ↓gnm_e, gbd_s, ↓reduceIte, n_leT, n_leF, n_ltT, n_ltF, n_eqT, n_eqF, Nat.add_zero, Nat.zero_add, z2, hin, f1, f2]; exact rfl, _, by decide, rfl, rfl, by repeat (first | exact ar_0 | apply ar_s)⟩
      · rcases (show j = 0 ∨ j = 1 ∨ j = 2 by omega) with e | e | e <;> subst e
        · exact ⟨_, _, _, _, _, _, _, _, by simp (disch := omega) only [pX0_works_k3, pX0_grades_k3, pX0_levels_k3, pX4_levels_k3, n_lit, nI_add, nI_1, n_cl, gck_in, gck_t, gck_T, ↓gnm_e, gbd_s, ↓reduceIte, n_leT, n_leF, n_ltT, n_ltF, n_eqT, n_eqF, Nat.add_zero, Nat.zero_add, z1, gmt_s, c1, c2, c3, c4, bg_c]; exact rfl, by simp (disch := omega) only [pX12_worksActs, pX12_gradesActs, pX12_levelsActs, pX12_plainWorks, pX12_plainGrades, pX12_plainLevels, ru_t, ru_f, bg_r, n_lit, nI_add, nI_1, n_cl, gck_in, gck_t, gck_T, ↓gnm_e, gbd_s, ↓reduceIte, n_leT, n_leF, n_ltT, n_ltF, n_eqT, n_eqF, Nat.add_zero, Nat.zero_add, z2, hin, f1, f2]; exact rfl, _, by decide, rfl, rfl, by repeat (first | exact ar_0 | apply ar_s)⟩
        · exact ⟨_, _, _, _, _, _, _, _, by simp (disch := omega) only [pX0_works_k3, pX0_grades_k3, pX0_levels_k3, pX4_levels_k3, n_lit, nI_add, nI_1, n_cl, gck_in, gck_t, gck_T, ↓gnm_e, gbd_s, ↓reduceIte, n_leT, n_leF, n_ltT, n_ltF, n_eqT, n_eqF, Nat.add_zero, Nat.zero_add, z1, gmt_s, c1, c2, c3, c4, bg_c]; exact rfl, by simp (disch := omega) only [pX12_worksActs, pX12_gradesActs, pX12_levelsActs, pX12_plainWorks, pX12_plainGrades, pX12_plainLevels, ru_t, ru_f, bg_r, n_lit, nI_add, nI_1, n_cl, gck_in, gck_t, gck_T, ↓gnm_e, gbd_s, ↓reduceIte, n_leT, n_leF, n_ltT, n_ltF, n_eqT, n_eqF, Nat.add_zero, Nat.zero_add, z2, hin, f1, f2]; exact rfl, _, by decide, rfl, rfl, by repeat (first | exact ar_0 | apply ar_s)⟩
        · exact ⟨_, _, _, _, _, _, _, _, by simp (disch := omega) only [pX0_works_k3, pX0_grades_k3, pX0_levels_k3, pX4_levels_k3, n_lit, nI_add, nI_1, n_cl, gck_in, gck_t, gck_T, ↓gnm_e, gbd_s, ↓reduceIte, n_leT, n_leF, n_ltT, n_ltF, n_eqT, n_eqF, Nat.add_zero, Nat.zero_add, z1, gmt_s, c1, c2, c3, c4, bg_c]; exact rfl, by simp (disch := omega) only [pX12_worksActs, pX12_gradesActs, pX12_levelsActs, pX12_plainWorks, pX12_plainGrades, pX12_plainLevels, ru_t, ru_f, bg_r, n_lit, nI_add, nI_1, n_cl, gck_in, gck_t, gck_T, ↓gnm_e, gbd_s, ↓reduceIte, n_leT, n_leF, n_ltT, n_ltF, n_eqT, n_eqF, Nat.add_zero, Nat.zero_add, z2, hin, f1, f2]; exact rfl, _, by decide, rfl, rfl, by repeat (first | exact ar_0 | apply ar_s)⟩
      · rcases (show j = 0 ∨ j = 1 ∨ j = 2 by omega) with e | e | e <;> subst e
        · exact ⟨_, _, _, _, _, _, _, _, by simp (disch := omega) only [pX0_works_k4, pX5_works_k4, pX0_grades_k4, pX0_levels_k4, pX6_levels_k4, n_lit, nI_add, nI_1, n_cl, gck_in, gck_t, gck_T, ↓gnm_e, gbd_s, ↓reduceIte, n_leT, n_leF, n_ltT, n_ltF, n_eqT, n_eqF, Nat.add_zero, Nat.zero_add, z1, gmt_s, c1, c2, c3, c4, bg_c]; exact rfl, by simp (disch := omega) only [pX12_worksActs, pX12_gradesActs, pX12_levelsActs, pX12_plainWorks, pX12_plainGrades, pX12_plainLevels, ru_t, ru_f, bg_r, n_lit, nI_add, nI_1, n_cl, gck_in, gck_t, gck_T, ↓gnm_e, gbd_s, ↓reduceIte, n_leT, n_leF, n_ltT, n_ltF, n_eqT, n_eqF, Nat.add_zero, Nat.zero_add, z2, hin, f1, f2]; exact rfl, _, by decide, rfl, rfl, by repeat (first | exact ar_0 | apply ar_s)⟩
        · exact ⟨_, _, _, _, _, _, _, _, by simp (disch := omega) only [pX0_works_k4, pX5_works_k4, pX0_grades_k4, pX0_levels_k4, pX6_levels_k4, n_lit, nI_add, nI_1, n_cl, gck_in, gck_t, gck_T, ↓gnm_e, gbd_s, ↓reduceIte, n_leT, n_leF, n_ltT, n_ltF, n_eqT, n_eqF, Nat.add_zero, Nat.zero_add, z1, gmt_s, c1, c2, c3, c4, bg_c]; exact rfl, by simp (disch := omega) only [pX12_worksActs, pX12_gradesActs, pX12_levelsActs, pX12_plainWorks, pX12_plainGrades, pX12_plainLevels, ru_t, ru_f, bg_r, n_lit, nI_add, nI_1, n_cl, gck_in, gck_t, gck_T, ↓gnm_e, gbd_s, ↓reduceIte, n_leT, n_leF, n_ltT, n_ltF, n_eqT, n_eqF, Nat.add_zero, Nat.zero_add, z2, hin, f1, f2]; exact rfl, _, by decide, rfl, rfl, by repeat (first | exact ar_0 | apply ar_s)⟩
        · exact ⟨_, _, _, _, _, _, _, _, by simp (disch := omega) only [pX0_works_k4, pX5_works_k4, pX0_grades_k4, pX0_levels_k4, pX6_levels_k4, n_lit, nI_add, nI_1, n_cl, gck_in, gck_t, gck_T, ↓gnm_e, gbd_s, ↓reduceIte, n_leT, n_leF, n_ltT, n_ltF, n_eqT, n_eqF, Nat.add_zero, Nat.zero_add, z1, gmt_s, c1, c2, c3, c4, bg_c]; exact rfl, by simp (disch := omega) only [pX12_worksActs, pX12_gradesActs, pX12_levelsActs, pX12_plainWorks, pX12_plainGrades, pX12_plainLevels, ru_t, ru_f, bg_r, n_lit, nI_add, nI_1, n_cl, gck_in, gck_t, gck_T, ↓gnm_e, gbd_s, ↓reduceIte, n_leT, n_leF, n_ltT, n_ltF, n_eqT, n_eqF, Nat.add_zero, Nat.zero_add, z2, hin, f1, f2]; exact rfl, _, by decide, rfl, rfl, by repeat (first | exact ar_0 | apply ar_s)⟩
      · rcases (show j = 0 ∨ j = 1 ∨ j = 2 by omega) with e | e | e <;> subst e
        · exact ⟨_, _, _, _, _, _, _, _, by simp (disch := omega) only [pX0_works_k5, pX3_works_k5, pX0_grades_k5, pX9_grades_k5, pX0_levels_k5, n_lit, nI_add, nI_1, n_cl, gck_in, gck_t, gck_T, ↓gnm_e, gbd_s, ↓reduceIte, n_leT, n_leF, n_ltT, n_ltF, n_eqT, n_eqF, Nat.add_zero, Nat.zero_add, z1, gmt_s, c1, c2, c3, c4, bg_c]; exact rfl, by simp (disch := omega) only [pX12_worksActs, pX12_gradesActs, pX12_levelsActs, pX12_plainWorks, pX12_plainGrades, pX12_plainLevels, ru_t, ru_f, bg_r, n_lit, nI_add, nI_1, n_cl, gck_in, gck_t, gck_T, ↓gnm_e, gbd_s, ↓reduceIte, n_leT, n_leF, n_ltT, n_ltF, n_eqT, n_eqF, Nat.add_zero, Nat.zero_add, z2, hin, f1, f2]; exact rfl, _, by decide, rfl, rfl, by repeat (first | exact ar_0 | apply ar_s)⟩
        · exact ⟨_, _, _, _, _, _, _, _, by simp (disch := omega) only [pX0_works_k5, pX3_works_k5, pX0_grades_k5, pX9_grades_k5, pX0_levels_k5, n_lit, nI_add, nI_1, n_cl, gck_in, gck_t, gck_T, ↓gnm_e, gbd_s, ↓reduceIte, n_leT, n_leF, n_ltT, n_ltF, n_eqT, n_eqF, Nat.add_zero, Nat.zero_add, z1, gmt_s, c1, c2, c3, c4, bg_c]; exact rfl, by simp (disch := omega) only [pX12_worksActs, pX12_gradesActs, pX12_levelsActs, pX12_plainWorks, pX12_plainGrades, pX12_plainLevels, ru_t, ru_f, bg_r, n_lit, nI_add, nI_1, n_cl, gck_in, gck_t, gck_T, ↓gnm_e, gbd_s, ↓reduceIte, n_leT, n_leF, n_ltT, n_ltF, n_eqT, n_eqF, Nat.add_zero, Nat.zero_add, z2, hin, f1, f2]; exact rfl, _, by decide, rfl, rfl, by repeat (first | exact ar_0 | apply ar_s)⟩
        · exact ⟨_, _, _, _, _, _, _, _, by simp (disch := omega) only [pX0_works_k5, pX3_works_k5, pX0_grades_k5, pX9_grades_k5, pX0_levels_k5, n_lit, nI_add, nI_1, n_cl, gck_in, gck_t, gck_T, ↓gnm_e, gbd_s, ↓reduceIte, n_leT, n_leF, n_ltT, n_ltF, n_eqT, n_eqF, Nat.add_zero, Nat.zero_add, z1, gmt_s, c1, c2, c3, c4, bg_c]; exact rfl, by simp (disch := omega) only [pX12_worksActs, pX12_gradesActs, pX12_levelsActs, pX12_plainWorks, pX12_plainGrades, pX12_plainLevels, ru_t, ru_f, bg_r, n_lit, nI_add, nI_1, n_cl, gck_in, gck_t, gck_T, ↓gnm_e, gbd_s, ↓reduceIte, n_leT, n_leF, n_ltT, n_ltF, n_eqT, n_eqF, Nat.add_zero, Nat.zero_add, z2, hin, f1, f2]; exact rfl, _, by decide, rfl, rfl, by repeat (first | exact ar_0 | apply ar_s)⟩
      · rcases (show j = 0 ∨ j = 1 ∨ j = 2 by omega) with e | e | e <;> subst e
        · exact ⟨_, _, _, _, _, _, _, _, by simp (disch := omega) only [pX0_works_k6, pX0_grades_k6, pX7_grades_k6, pX0_levels_k6, pX4_levels_k6, n_lit, nI_add, nI_1, n_cl, gck_in, gck_t, gck_T, ↓gnm_e, gbd_s, ↓reduceIte, n_leT, n_leF, n_ltT, n_ltF, n_eqT, n_eqF, Nat.add_zero, Nat.zero_add, z1, gmt_s, c1, c2, c3, c4, bg_c]; exact rfl, by simp (disch := omega) only [pX12_worksActs, pX12_gradesActs, pX12_levelsActs, pX12_plainWorks, pX12_plainGrades, pX12_plainLevels, ru_t, ru_f, bg_r, n_lit, nI_add, nI_1, n_cl, gck_in, gck_t, gck_T, ↓gnm_e, gbd_s, ↓reduceIte, n_leT, n_leF, n_ltT, n_ltF, n_eqT, n_eqF, Nat.add_zero, Nat.zero_add, z2, hin, f1, f2]; exact rfl, _, by decide, rfl, rfl, by repeat (first | exact ar_0 | apply ar_s)⟩
        · exact ⟨_, _, _, _, _, _, _, _, by simp (disch := omega) only [pX0_works_k6, pX0_grades_k6, pX7_grades_k6, pX0_levels_k6, pX4_levels_k6, n_lit, nI_add, nI_1, n_cl, gck_in, gck_t, gck_T, ↓gnm_e, gbd_s, ↓reduceIte, n_leT, n_leF, n_ltT, n_ltF, n_eqT, n_eqF, Nat.add_zero, Nat.zero_add, z1, gmt_s, c1, c2, c3, c4, bg_c]; exact rfl, by simp (disch := omega) only [pX12_worksActs, pX12_gradesActs, pX12_levelsActs, pX12_plainWorks, pX12_plainGrades, pX12_plainLevels, ru_t, ru_f, bg_r, n_lit, nI_add, nI_1, n_cl, gck_in, gck_t, gck_T, ↓gnm_e, gbd_s, ↓reduceIte, n_leT, n_leF, n_ltT, n_ltF, n_eqT, n_eqF, Nat.add_zero, Nat.zero_add, z2, hin, f1, f2]; exact rfl, _, by decide, rfl, rfl, by repeat (first | exact ar_0 | apply ar_s)⟩
        · exact ⟨_, _, _, _, _, _, _, _, by simp (disch := omega) only [pX0_works_k6, pX0_grades_k6, pX7_grades_k6, pX0_levels_k6, pX4_levels_k6, n_lit, nI_add, nI_1, n_cl, gck_in, gck_t, gck_T, ↓gnm_e, gbd_s, ↓reduceIte, n_leT, n_leF, n_ltT, n_ltF, n_eqT, n_eqF, Nat.add_zero, Nat.zero_add, z1, gmt_s, c1, c2, c3, c4, bg_c]; exact rfl, by simp (disch := omega) only [pX12_worksActs, pX12_gradesActs, pX12_levelsActs, pX12_plainWorks, pX12_plainGrades, pX12_plainLevels, ru_t, ru_f, bg_r, n_lit, nI_add, nI_1, n_cl, gck_in, gck_t, gck_T, ↓gnm_e, gbd_s, ↓reduceIte, n_leT, n_leF, n_ltT, n_ltF, n_eqT, n_eqF, Nat.add_zero, Nat.zero_add, z2, hin, f1, f2]; exact rfl, _, by decide, rfl, rfl, by repeat (first | exact ar_0 | apply ar_s)⟩
    · have hin : pX12_in x2 (nI 0) (nI 2) = some (nI 0) := in_f hx2
      have hne := x_out hx2 (by decide)
      exact ⟨nI 0, nI 0, ta, a17, nI 0, o19, o20, o21, by rw [z1, gbd_s, gmt_s, n_lit]; simp (disch := omega) only [n_lit, hne, if_false], by simp (disch := omega) only [n_lit, nI_add, nI_1, n_cl, gck_in, gck_t, gck_T, ↓gnm_e, gbd_s, ↓reduceIte, n_leT, n_leF, n_ltT, n_ltF, n_eqT, n_eqF, Nat.add_zero, Nat.zero_add, z2, hin], tr_0⟩
  · have z1 := cat_f (Cf := Cf) hx
    have z2 := isc_f hC h4 hx
    exact ⟨nI 0, nI 0, ta, a17, nI 0, o19, o20, o21, by rw [z1, gbd_s, gmt_n]; rfl, by rw [z2, gbd_s, ib0]; rfl, tr_0⟩
theorem ik_0 : ∀ j, j < 7 → pX0_isOfKind_k0 (nI j) = pX12_isUnder (nI 0) (nI j) := by decide
theorem ik_1 : ∀ j, j < 7 → pX0_isOfKind_k1 (nI j) = pX12_isUnder (nI 1) (nI j) := by decide
theorem ik_2 : ∀ j, j < 7 → pX0_isOfKind_k2 (nI j) = pX12_isUnder (nI 2) (nI j) := by decide
theorem ik_3 : ∀ j, j < 7 → pX0_isOfKind_k3 (nI j) = pX12_isUnder (nI 3) (nI j) := by decide
theorem ik_4 : ∀ j, j < 7 → pX0_isOfKind_k4 (nI j) = pX12_isUnder (nI 4) (nI j) := by decide
theorem ik_5 : ∀ j, j < 7 → pX0_isOfKind_k5 (nI j) = pX12_isUnder (nI 5) (nI j) := by decide
theorem ik_6 : ∀ j, j < 7 → pX0_isOfKind_k6 (nI j) = pX12_isUnder (nI 6) (nI j) := by decide
theorem m_as (hS : SV s W C y Hn R T) (hR : WR F o A Cf h s) (x1 x2 : Int32) : ∃ v, pX11_as F (o 1) Cf x1 x2 = some v ∧ pX12_as s x1 x2 = some v := by
  have hI := hS.1
  obtain ⟨hW, h10, hC, h4, hy, hy2, hV, hK⟩ := id hI
  obtain ⟨-, e1, -⟩ := wr_o hS hR
  rw [e1]
  unfold pX11_as pX12_as
  rcases x_lt x1 (n := C) (by omega) with ⟨c, hc, rfl⟩ | hx
  · obtain ⟨b, hb, c1, c2, c3, c4, c5⟩ := wr_cfs hS hR c hc
    obtain ⟨k, v, d, q1, q2, q3, f1, f2, f3⟩ := hK c hc
    have z1 := c_chief h4 hc hb
    have z2 := isc_t hC h4 hc
    rw [f1] at c2
    rw [f2] at c4
    rcases x_in x2 (n := 6) (by decide) with ⟨j, hj, rfl⟩ | hx2
    · have hin : pX12_in (nI j) (nI 0) (nI 6) = some (nI 1) := in_nT (a := 0) (by omega) hj (by decide)
      by_cases u : j = 0 ∨ j = k ∨ (j < 4 ∧ k = j + 3)
      · have hu := ru_t k j u q1 (by omega)
        refine ⟨nI v, ?_, by simp (disch := omega) only [n_lit, nI_add, nI_1, n_cl, gck_in, gck_t, gck_T, ↓gnm_e, gbd_s, ↓reduceIte, n_leT, n_leF, n_ltT, n_ltF, n_eqT, n_eqF, Nat.add_zero, Nat.zero_add, z2, hin, f1, f2, hu]⟩
        rcases (show k = 0 ∨ k = 1 ∨ k = 2 ∨ k = 3 ∨ k = 4 ∨ k = 5 ∨ k = 6 by omega) with e | e | e | e | e | e | e <;> subst e
        · have hk := (ik_0 j (by omega)).trans hu
          simp (disch := omega) only [n_lit, nI_add, nI_1, n_cl, gck_in, gck_t, gck_T, ↓gnm_e, gbd_s, ↓reduceIte, n_leT, n_leF, n_ltT, n_ltF, n_eqT, n_eqF, Nat.add_zero, Nat.zero_add, z1, gmt_s, c1, c2, c4, hk]
        · have hk := (ik_1 j (by omega)).trans hu
          simp (disch := omega) only [n_lit, nI_add, nI_1, n_cl, gck_in, gck_t, gck_T, ↓gnm_e, gbd_s, ↓reduceIte, n_leT, n_leF, n_ltT, n_ltF, n_eqT, n_eqF, Nat.add_zero, Nat.zero_add, z1, gmt_s, c1, c2, c4, hk]
        · have hk := (ik_2 j (by omega)).trans hu
          simp (disch := omega) only [n_lit, nI_add, nI_1, n_cl, gck_in, gck_t, gck_T, ↓gnm_e, gbd_s, ↓reduceIte, n_leT, n_leF, n_ltT, n_ltF, n_eqT, n_eqF, Nat.add_zero, Nat.zero_add, z1, gmt_s, c1, c2, c4, hk]
        · have hk := (ik_3 j (by omega)).trans hu
          simp (disch := omega) only [n_lit, nI_add, nI_1, n_cl, gck_in, gck_t, gck_T, ↓gnm_e, gbd_s, ↓reduceIte, n_leT, n_leF, n_ltT, n_ltF, n_eqT, n_eqF, Nat.add_zero, Nat.zero_add, z1, gmt_s, c1, c2, c4, hk]
        · have hk := (ik_4 j (by omega)).trans hu
          simp (disch := omega) only [n_lit, nI_add, nI_1, n_cl, gck_in, gck_t, gck_T, ↓gnm_e, gbd_s, ↓reduceIte, n_leT, n_leF, n_ltT, n_ltF, n_eqT, n_eqF, Nat.add_zero, Nat.zero_add, z1, gmt_s, c1, c2, c4, hk]
        · have hk := (ik_5 j (by omega)).trans hu
          simp (disch := omega) only [n_lit, nI_add, nI_1, n_cl, gck_in, gck_t, gck_T, ↓gnm_e, gbd_s, ↓reduceIte, n_leT, n_leF, n_ltT, n_ltF, n_eqT, n_eqF, Nat.add_zero, Nat.zero_add, z1, gmt_s, c1, c2, c4, hk]
        · have hk := (ik_6 j (by omega)).trans hu
          simp (disch := omega) only [n_lit, nI_add, nI_1, n_cl, gck_in, gck_t, gck_T, ↓gnm_e, gbd_s, ↓reduceIte, n_leT, n_leF, n_ltT, n_ltF, n_eqT, n_eqF, Nat.add_zero, Nat.zero_add, z1, gmt_s, c1, c2, c4, hk]
      · have hu := ru_f k j u q1 (by omega)
        refine ⟨-nI 6, ?_, by simp (disch := omega) only [n_lit, nI_add, nI_1, n_cl, gck_in, gck_t, gck_T, ↓gnm_e, gbd_s, ↓reduceIte, n_leT, n_leF, n_ltT, n_ltF, n_eqT, n_eqF, Nat.add_zero, Nat.zero_add, z2, hin, f1, f2, hu]⟩
        rcases (show k = 0 ∨ k = 1 ∨ k = 2 ∨ k = 3 ∨ k = 4 ∨ k = 5 ∨ k = 6 by omega) with e | e | e | e | e | e | e <;> subst e
        · have hk := (ik_0 j (by omega)).trans hu
          simp (disch := omega) only [n_lit, nI_add, nI_1, n_cl, gck_in, gck_t, gck_T, ↓gnm_e, gbd_s, ↓reduceIte, n_leT, n_leF, n_ltT, n_ltF, n_eqT, n_eqF, Nat.add_zero, Nat.zero_add, z1, gmt_s, c1, c2, c4, hk]
        · have hk := (ik_1 j (by omega)).trans hu
          simp (disch := omega) only [n_lit, nI_add, nI_1, n_cl, gck_in, gck_t, gck_T, ↓gnm_e, gbd_s, ↓reduceIte, n_leT, n_leF, n_ltT, n_ltF, n_eqT, n_eqF, Nat.add_zero, Nat.zero_add, z1, gmt_s, c1, c2, c4, hk]
        · have hk := (ik_2 j (by omega)).trans hu
          simp (disch := omega) only [n_lit, nI_add, nI_1, n_cl, gck_in, gck_t, gck_T, ↓gnm_e, gbd_s, ↓reduceIte, n_leT, n_leF, n_ltT, n_ltF, n_eqT, n_eqF, Nat.add_zero, Nat.zero_add, z1, gmt_s, c1, c2, c4, hk]
        · have hk := (ik_3 j (by omega)).trans hu
          simp (disch := omega) only [n_lit, nI_add, nI_1, n_cl, gck_in, gck_t, gck_T, ↓gnm_e, gbd_s, ↓reduceIte, n_leT, n_leF, n_ltT, n_ltF, n_eqT, n_eqF, Nat.add_zero, Nat.zero_add, z1, gmt_s, c1, c2, c4, hk]
        · have hk := (ik_4 j (by omega)).trans hu
          simp (disch := omega) only [n_lit, nI_add, nI_1, n_cl, gck_in, gck_t, gck_T, ↓gnm_e, gbd_s, ↓reduceIte, n_leT, n_leF, n_ltT, n_ltF, n_eqT, n_eqF, Nat.add_zero, Nat.zero_add, z1, gmt_s, c1, c2, c4, hk]
        · have hk := (ik_5 j (by omega)).trans hu
          simp (disch := omega) only [n_lit, nI_add, nI_1, n_cl, gck_in, gck_t, gck_T, ↓gnm_e, gbd_s, ↓reduceIte, n_leT, n_leF, n_ltT, n_ltF, n_eqT, n_eqF, Nat.add_zero, Nat.zero_add, z1, gmt_s, c1, c2, c4, hk]
        · have hk := (ik_6 j (by omega)).trans hu
          simp (disch := omega) only [n_lit, nI_add, nI_1, n_cl, gck_in, gck_t, gck_T, ↓gnm_e, gbd_s, ↓reduceIte, n_leT, n_leF, n_ltT, n_ltF, n_eqT, n_eqF, Nat.add_zero, Nat.zero_add, z1, gmt_s, c1, c2, c4, hk]
    · have hin : pX12_in x2 (nI 0) (nI 6) = some (nI 0) := in_f hx2
      refine ⟨-nI 1, ?_, by simp (disch := omega) only [n_lit, nI_add, nI_1, n_cl, gck_in, gck_t, gck_T, ↓gnm_e, gbd_s, ↓reduceIte, n_leT, n_leF, n_ltT, n_ltF, n_eqT, n_eqF, Nat.add_zero, Nat.zero_add, z2, hin]⟩
      rw [z1, gbd_s, gmt_s]
      by_cases w0 : x2 < 0
      · rw [if_pos w0]; rfl
      · have w1 : ¬ x2 < 7 := by
          have w2 := hx2.resolve_left w0
          rw [n_ltI, n_ti (by omega)] at w2
          rw [n_ltI, show ((7 : Int32).toInt) = 7 from by decide]
          omega
        rw [if_neg w0, if_neg w1]; rfl
  · have z1 := cat_f (Cf := Cf) hx
    have z2 := isc_f hC h4 hx
    exact ⟨-nI 1, by rw [z1, gbd_s, gmt_n]; rfl, by rw [z2, gbd_s, ib0]; rfl⟩
end ACT
