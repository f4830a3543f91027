/-! PURE SIDE: the functions of the trial world are those of the world -/
theorem ev_X10_hasWorker_w1 : @pX10_hasWorker_w1 = @pX10_hasWorker_w0 := rfl
theorem ev_X10_chiefAt_w1 : @pX10_chiefAt_w1 = @pX10_chiefAt_w0 := rfl
theorem ev_X10_teamBits_w1_4 : @pX10_teamBits_w1_4 = @pX10_teamBits_w0_4 := by
  funext a0 a1 n
  induction n with
  | zero => rfl
  | succ n ih => funext y0 y1 y2; simp only [pX10_teamBits_w1_4, pX10_teamBits_w0_4, ih]
theorem ev_X10_teamBits_w1 : @pX10_teamBits_w1 = @pX10_teamBits_w0 := by
  funext a0 a1 a2
  unfold pX10_teamBits_w1 pX10_teamBits_w0
  rw [ev_X10_teamBits_w1_4]
theorem ev_X1_markBy_w1 : @pX1_markBy_w1 = @pX1_markBy_w0 := by
  funext a0 a1 a2 a3 a4 a5 a6 a7 a8 a9 a10
  unfold pX1_markBy_w1 pX1_markBy_w0
  rw [ev_X10_hasWorker_w1, ev_X10_teamBits_w1]
theorem ev_X1_markTeam_w1_2 : @pX1_markTeam_w1_2 = @pX1_markTeam_w0_2 := by
  funext a0 a1 a2 a3 a4 a5 a6 a7 a8 a9 n
  induction n with
  | zero => rfl
  | succ n ih => funext y0 y1 y2 y3; simp only [pX1_markTeam_w1_2, pX1_markTeam_w0_2, ih, ev_X1_markBy_w1]
theorem ev_X1_markTeam_w1 : @pX1_markTeam_w1 = @pX1_markTeam_w0 := by
  funext a0 a1 a2 a3 a4 a5 a6 a7 a8 a9 a10 a11 a12
  unfold pX1_markTeam_w1 pX1_markTeam_w0
  rw [ev_X1_markTeam_w1_2]
theorem ev_X1_share_w1_181 : @pX1_share_w1_181 = @pX1_share_w0_181 := by
  funext a0 a1 a2 a3 a4 a5 n
  induction n with
  | zero => rfl
  | succ n ih => funext y0 y1 y2 y3; simp only [pX1_share_w1_181, pX1_share_w0_181, ih]
theorem ev_X1_share_w1_149 : @pX1_share_w1_149 = @pX1_share_w0_149 := by
  funext a0 a1 a2 a3 a4 a5 n
  induction n with
  | zero => rfl
  | succ n ih => funext y0 y1 y2 y3; simp only [pX1_share_w1_149, pX1_share_w0_149, ih, ev_X1_share_w1_181]
theorem ev_X1_share_w1_126 : @pX1_share_w1_126 = @pX1_share_w0_126 := by
  funext a0 a1 a2 a3 a4 a5 a6 a7 a8 a9
  unfold pX1_share_w1_126 pX1_share_w0_126
  rw [ev_X1_share_w1_149]
theorem ev_X1_share_w1_89 : @pX1_share_w1_89 = @pX1_share_w0_89 := rfl
theorem ev_X1_share_w1_47 : @pX1_share_w1_47 = @pX1_share_w0_47 := by
  funext a0 a1 a2 a3 a4 a5 n
  induction n with
  | zero => rfl
  | succ n ih => funext y0 y1 y2 y3 y4 y5; simp only [pX1_share_w1_47, pX1_share_w0_47, ih, ev_X1_share_w1_126, ev_X1_share_w1_89]
theorem ev_X1_share_w1 : @pX1_share_w1 = @pX1_share_w0 := by
  funext a0 a1 a2 a3 a4 a5 a6 a7 a8
  unfold pX1_share_w1 pX1_share_w0
  rw [ev_X1_share_w1_47]
theorem ev_X1_gradeTeam_w1 : @pX1_gradeTeam_w1 = @pX1_gradeTeam_w0 := by
  funext a0 a1 a2 a3 a4 a5 a6 a7 a8 a9 a10 a11 a12 a13 a14
  unfold pX1_gradeTeam_w1 pX1_gradeTeam_w0
  rw [ev_X10_teamBits_w1, ev_X1_markTeam_w1, ev_X1_share_w1]
theorem ev_X1_gradeHad_w1 : @pX1_gradeHad_w1 = @pX1_gradeHad_w0 := by
  funext a0 a1 a2 a3 a4 a5 a6 a7 a8 a9 a10 a11 a12 a13 a14 a15 a16
  unfold pX1_gradeHad_w1 pX1_gradeHad_w0
  rw [ev_X10_hasWorker_w1, ev_X10_chiefAt_w1, ev_X1_gradeTeam_w1]
theorem ev_X1_gradeAll_w1_2 : @pX1_gradeAll_w1_2 = @pX1_gradeAll_w0_2 := by
  funext a0 a1 a2 a3 a4 a5 a6 a7 a8 a9 n
  induction n with
  | zero => rfl
  | succ n ih => funext y0 y1 y2 y3 y4 y5 y6; simp only [pX1_gradeAll_w1_2, pX1_gradeAll_w0_2, ih, ev_X10_chiefAt_w1, ev_X1_gradeTeam_w1]
theorem ev_X1_gradeAll_w1 : @pX1_gradeAll_w1 = @pX1_gradeAll_w0 := by
  funext a0 a1 a2 a3 a4 a5 a6 a7 a8 a9 a10 a11 a12 a13 a14 a15
  unfold pX1_gradeAll_w1 pX1_gradeAll_w0
  rw [ev_X1_gradeAll_w1_2]
theorem ev_X10_replace_w1 : @pX10_replace_w1 = @pX10_replace_w0 := by
  funext a0 a1 a2 a3 a4 a5 a6
  unfold pX10_replace_w1 pX10_replace_w0
  rw [ev_X10_hasWorker_w1]
theorem ev_X11_outByGrade_w1_2 : @pX11_outByGrade_w1_2 = @pX11_outByGrade_w0_2 := by
  funext a0 a1 a2 a3 n
  induction n with
  | zero => rfl
  | succ n ih => funext y0 y1 y2 y3; simp only [pX11_outByGrade_w1_2, pX11_outByGrade_w0_2, ih, ev_X10_replace_w1]
theorem ev_X11_outByGrade_w1 : @pX11_outByGrade_w1 = @pX11_outByGrade_w0 := by
  funext a0 a1 a2 a3 a4 a5 a6
  unfold pX11_outByGrade_w1 pX11_outByGrade_w0
  rw [ev_X11_outByGrade_w1_2]
theorem ev_X11_outByLot_w1_10 : @pX11_outByLot_w1_10 = @pX11_outByLot_w0_10 := by
  funext a0 a1 a2 a3 n
  induction n with
  | zero => rfl
  | succ n ih => funext y0 y1 y2 y3 y4; simp only [pX11_outByLot_w1_10, pX11_outByLot_w0_10, ih, ev_X10_replace_w1]
theorem ev_X11_outByLot_w1 : @pX11_outByLot_w1 = @pX11_outByLot_w0 := by
  funext a0 a1 a2 a3 a4 a5 a6 a7
  unfold pX11_outByLot_w1 pX11_outByLot_w0
  rw [ev_X11_outByLot_w1_10]
theorem ev_X1_gradeDue_w1_14 : @pX1_gradeDue_w1_14 = @pX1_gradeDue_w0_14 := by
  funext a0 a1 a2 a3 a4 n
  induction n with
  | zero => rfl
  | succ n ih => funext y0 y1 y2 y3 y4 y5; simp only [pX1_gradeDue_w1_14, pX1_gradeDue_w0_14, ih, ev_X1_share_w1]
theorem ev_X1_gradeDue_w1 : @pX1_gradeDue_w1 = @pX1_gradeDue_w0 := by
  funext a0 a1 a2 a3 a4 a5 a6 a7 a8 a9
  unfold pX1_gradeDue_w1 pX1_gradeDue_w0
  rw [ev_X1_gradeDue_w1_14]
theorem ev_X11_goYear_w1_96 : @pX11_goYear_w1_96 = @pX11_goYear_w0_96 := by
  funext a0 a1 a2 a3 a4 a5 a6 a7 a8 a9 a10 a11 a12 a13 a14 a15 a16 a17 a18 a19 a20
  unfold pX11_goYear_w1_96 pX11_goYear_w0_96
  rw [ev_X11_outByLot_w1, ev_X11_outByGrade_w1]
theorem ev_X11_goYear_w1_29 : @pX11_goYear_w1_29 = @pX11_goYear_w0_29 := by
  funext a0 a1 a2 a3 a4 a5 a6 a7 a8 n
  induction n with
  | zero => rfl
  | succ n ih => funext y0 y1 y2 y3 y4 y5 y6 y7 y8 y9 y10 y11 y12; simp only [pX11_goYear_w1_29, pX11_goYear_w0_29, ih, ev_X11_goYear_w1_96]
theorem ev_X11_goYear_w1 : @pX11_goYear_w1 = @pX11_goYear_w0 := by
  funext a0 a1 a2 a3 a4 a5 a6 a7 a8 a9 a10 a11 a12 a13 a14 a15 a16 a17 a18 a19
  unfold pX11_goYear_w1 pX11_goYear_w0
  rw [ev_X1_gradeDue_w1, ev_X1_gradeAll_w1, ev_X11_goYear_w1_29]
theorem ev_X10_become_w2_w0_209 : @pX10_become_w2_w0_209 = @pX10_become_w1_w0_209 := by
  funext a0 a1 a2 a3 a4 a5 a6 a7 a8 a9 a10 a11 a12 a13 a14 a15 a16 a17 a18 a19 n
  induction n with
  | zero => rfl
  | succ n ih => funext y0 y1 y2 y3 y4 y5 y6 y7 y8 y9 y10 y11 y12 y13 y14 y15 y16 y17 y18 y19; simp only [pX10_become_w2_w0_209, pX10_become_w1_w0_209, ih]
theorem ev_X10_become_w2_w0 : @pX10_become_w2_w0 = @pX10_become_w1_w0 := by
  funext a0 a1 a2 a3 a4 a5 a6 a7 a8 a9 a10 a11 a12 a13 a14 a15 a16 a17 a18 a19 a20 a21 a22 a23 a24 a25 a26 a27 a28 a29 a30 a31 a32 a33 a34 a35 a36 a37 a38
  unfold pX10_become_w2_w0 pX10_become_w1_w0
  rw [ev_X10_become_w2_w0_209]
theorem ev_X10_become_w0_w2_209 : @pX10_become_w0_w2_209 = @pX10_become_w1_w0_209 := by
  funext a0 a1 a2 a3 a4 a5 a6 a7 a8 a9 a10 a11 a12 a13 a14 a15 a16 a17 a18 a19 n
  induction n with
  | zero => rfl
  | succ n ih => funext y0 y1 y2 y3 y4 y5 y6 y7 y8 y9 y10 y11 y12 y13 y14 y15 y16 y17 y18 y19; simp only [pX10_become_w0_w2_209, pX10_become_w1_w0_209, ih]
theorem ev_X10_become_w0_w2 : @pX10_become_w0_w2 = @pX10_become_w1_w0 := by
  funext a0 a1 a2 a3 a4 a5 a6 a7 a8 a9 a10 a11 a12 a13 a14 a15 a16 a17 a18 a19 a20 a21 a22 a23 a24 a25 a26 a27 a28 a29 a30 a31 a32 a33 a34 a35 a36 a37 a38
  unfold pX10_become_w0_w2 pX10_become_w1_w0
  rw [ev_X10_become_w0_w2_209]
