/-! the loop of the law, its first objects; written by wip/whole/mach/begin.py -/
theorem u_89 : Cond.classLink RL 7 RX11 ∈ gU := gu_in (List.mem_of_getElem? (i := 89) (by decide +kernel)) rfl
theorem u_93 : Cond.code yX11_init cX11_init 1 none ∈ gU := gu_in (List.mem_of_getElem? (i := 93) (by decide +kernel)) rfl
theorem u_91 : Cond.methodLink RL 9 yX11_init ∈ gU := gu_in (List.mem_of_getElem? (i := 91) (by decide +kernel)) rfl
theorem u_92 : Cond.instanceMethod yX11_init ∈ gU := gu_in (List.mem_of_getElem? (i := 92) (by decide +kernel)) rfl
theorem u_974 : Cond.classLink RL 10 RX12 ∈ gU := gu_in (List.mem_of_getElem? (i := 974) (by decide +kernel)) rfl
theorem u_978 : Cond.code yX12_init cX12_init 1 none ∈ gU := gu_in (List.mem_of_getElem? (i := 978) (by decide +kernel)) rfl
theorem u_976 : Cond.methodLink RL 12 yX12_init ∈ gU := gu_in (List.mem_of_getElem? (i := 976) (by decide +kernel)) rfl
theorem u_977 : Cond.instanceMethod yX12_init ∈ gU := gu_in (List.mem_of_getElem? (i := 977) (by decide +kernel)) rfl
theorem x_and (a b : Nat) : nI a &&& nI b = nI (a &&& b) := by
  apply Int32.toBitVec_inj.1
  show BitVec.ofNat 32 a &&& BitVec.ofNat 32 b = BitVec.ofNat 32 (a &&& b)
  apply BitVec.eq_of_getLsbD_eq
  intro i hi
  simp [hi]
theorem x_31 (x : Int32) : ∃ c, c < 32 ∧ x &&& 31 = nI c := by
  obtain ⟨n, rfl⟩ : ∃ n, x = nI n := ⟨x.toBitVec.toNat, by
    apply Int32.toBitVec_inj.1
    show x.toBitVec = BitVec.ofNat 32 x.toBitVec.toNat
    simp⟩
  refine ⟨n % 2 ^ 5, Nat.mod_lt _ (by decide), ?_⟩
  rw [show (31 : Int32) = nI (2 ^ 5 - 1) from rfl, x_and, Nat.and_two_pow_sub_one_eq_mod]
theorem l_lt6 {L i : Nat} (hL : L ≤ 384) (hi : i ≤ 1000) : nI L - 6 < nI i ↔ L < i + 6 := by
  rw [show (6 : Int32) = nI 6 from rfl, n_ltI, pk_sub_toInt (by omega) (by omega), n_ti (by omega)]
  omega
theorem l_in0 {i L : Nat} (h : i + 6 ≤ L) (hL : L ≤ 384) : vp_in (nI i) L := by
  unfold vp_in
  rw [n_cl (by omega)]
  rintro (z | z)
  · rw [show (0 : Int32) = nI 0 from rfl, n_lt (by omega) (by omega)] at z; omega
  · omega
set_option maxHeartbeats 4000000 in
set_option maxRecDepth 100000 in
theorem law_loop {Γ : gT} {b L : Nat} {xs : Nat → Int32} {q : Nat → Nat} {r : Nat → Nat → Nat} {m : Nat} {rm : Nat → Nat} (H : LK Γ b L xs) (hend : ∀ (cl sl : Nat) (L' : List (Nat × Value)) (ws : va_W), cl ≤ 600000 → sl ≤ 7302250 → gGO Γ cl sl 1087 L' [.int 1] ws) : ∀ (k j : Nat) (ws : va_W), L ≤ 6 * j + 6 * k → j + k ≤ 65 → LI (g_E Γ) q r m rm ws → gGO Γ (100 + 10 * j) (5000 + 311 * j) 18 [(0, .ref b), (1, .ref (q 5)), (2, .ref m), (3, .int (nI (6 * j)))] [] ws := by
  obtain ⟨K, hRm, hn4, hfz, hX, hbl, hbA, hL⟩ := id H
  intro k
  induction k with
  | zero =>
    intro j ws hLj hj hI
    refine g_iload_n K dL_law_18 rfl 3 rfl ?_
    refine g_aload_n K dL_law_19 rfl 0 rfl ?_
    refine gL_slen K hX hbl hbA dL_law_20 ?_
    refine g_bipush (v := 6) K dL_law_21 (by decide) ?_
    refine g_isub K dL_law_23 ?_
    refine g_icmp_gt (tgt := 1086) K dL_law_24 (by decide) (fun qh => ?_) (fun qh => ?_)
    · refine g_iconst (v := 1) K dL_law_1086 (by decide) ?_
      exact hend _ _ _ _ (by omega) (by omega)
    · exact absurd ((l_lt6 hL (by omega)).mpr (by omega)) qh
  | succ k ih =>
    intro j ws hLj hj hI
    refine g_iload_n K dL_law_18 rfl 3 rfl ?_
    refine g_aload_n K dL_law_19 rfl 0 rfl ?_
    refine gL_slen K hX hbl hbA dL_law_20 ?_
    refine g_bipush (v := 6) K dL_law_21 (by decide) ?_
    refine g_isub K dL_law_23 ?_
    refine g_icmp_gt (tgt := 1086) K dL_law_24 (by decide) (fun qh => ?_) (fun qh => ?_)
    · refine g_iconst (v := 1) K dL_law_1086 (by decide) ?_
      exact hend _ _ _ _ (by omega) (by omega)
    · have hi6 : 6 * j + 6 ≤ L := by
        exact Nat.not_lt.mp (fun y => qh ((l_lt6 hL (by omega)).mpr y))
      clear qh
      refine g_aload_n K dL_law_27 rfl 0 rfl ?_
      refine g_iload_n K dL_law_28 rfl 3 rfl ?_
      refine gL_sld K hX hbl hbA (l_in0 hi6 hL) rfl dL_law_29 ?_
      refine g_bipush (v := 31) K dL_law_30 (by decide) ?_
      refine g_iand K dL_law_32 ?_
      obtain ⟨c, hc, hx⟩ := x_31 (xs (nI (6 * j)).toNatClampNeg)
      rw [hx]
      have kn : ∀ (cl sl : Nat) (ws' : va_W), cl ≤ 100 + 10 * j → sl ≤ 5000 + 311 * j → LI (g_E Γ) q r m rm ws' → gGO Γ (cl + 10) (sl + 311) 1080 [(0, .ref b), (1, .ref (q 5)), (2, .ref m), (3, .int (nI (6 * j)))] [] ws' := fun cl sl ws' h1 h2 hI' => by
        refine g_iinc (v := nI (6 * (j + 1))) K dL_law_1080 3 rfl (by rw [show Int32.ofInt 6 = nI 6 from rfl, nI_add]; exact congrArg nI (by omega)) (by rw [hn4]; decide) rfl ?_
        refine g_goto (tgt := 18) K dL_law_1083 (by decide) ?_
        refine g_sub (L' := [(0, .ref b), (1, .ref (q 5)), (2, .ref m), (3, .int (nI (6 * (j + 1))))]) [1, 2, 3, 0] rfl ?_
        exact g_wid (by omega) (by omega) (ih (j + 1) ws' (by omega) (by omega) hI')
      match c, hc with
      | 0, _ => exact g_tabIn (tgt := 168) K dL_law_33 (by decide) (by decide) rfl (by decide) (law_feed H hi6 (by omega) (by omega) hI (fun ws' h => kn _ _ ws' (Nat.le_refl _) (Nat.le_refl _) h))
      | 1, _ => exact g_tabIn (tgt := 191) K dL_law_33 (by decide) (by decide) rfl (by decide) (law_house H hi6 (by omega) (by omega) hI (fun ws' h => kn _ _ ws' (Nat.le_refl _) (Nat.le_refl _) h))
      | 2, _ => exact g_tabIn (tgt := 204) K dL_law_33 (by decide) (by decide) rfl (by decide) (law_told H hi6 (by omega) (by omega) hI (fun ws' h => kn _ _ ws' (Nat.le_refl _) (Nat.le_refl _) h))
      | 3, _ => exact g_tabIn (tgt := 227) K dL_law_33 (by decide) (by decide) rfl (by decide) (law_chief H hi6 (by omega) (by omega) hI (fun ws' h => kn _ _ ws' (Nat.le_refl _) (Nat.le_refl _) h))
      | 4, _ => exact g_tabIn (tgt := 270) K dL_law_33 (by decide) (by decide) rfl (by decide) (law_worker H hi6 (by omega) (by omega) hI (fun ws' h => kn _ _ ws' (Nat.le_refl _) (Nat.le_refl _) h))
      | 5, _ => exact g_tabIn (tgt := 323) K dL_law_33 (by decide) (by decide) rfl (by decide) (law_of H hi6 (by omega) (by omega) hI (fun ws' h => kn _ _ ws' (Nat.le_refl _) (Nat.le_refl _) h))
      | 6, _ => exact g_tabIn (tgt := 356) K dL_law_33 (by decide) (by decide) rfl (by decide) (law_by H hi6 (by omega) (by omega) hI (fun ws' h => kn _ _ ws' (Nat.le_refl _) (Nat.le_refl _) h))
      | 7, _ => exact g_tabIn (tgt := 389) K dL_law_33 (by decide) (by decide) rfl (by decide) (law_move H hi6 (by omega) (by omega) hI (fun ws' h => kn _ _ ws' (Nat.le_refl _) (Nat.le_refl _) h))
      | 8, _ => exact g_tabIn (tgt := 422) K dL_law_33 (by decide) (by decide) rfl (by decide) (law_set H hi6 (by omega) (by omega) hI (fun ws' h => kn _ _ ws' (Nat.le_refl _) (Nat.le_refl _) h))
      | 9, _ => exact g_tabIn (tgt := 465) K dL_law_33 (by decide) (by decide) rfl (by decide) (law_fresh H hi6 (by omega) (by omega) hI (fun ws' h => kn _ _ ws' (Nat.le_refl _) (Nat.le_refl _) h))
      | 10, _ => exact g_tabIn (tgt := 498) K dL_law_33 (by decide) (by decide) rfl (by decide) (law_mark H hi6 (by omega) (by omega) hI (fun ws' h => kn _ _ ws' (Nat.le_refl _) (Nat.le_refl _) h))
      | 11, _ => exact g_tabIn (tgt := 531) K dL_law_33 (by decide) (by decide) rfl (by decide) (law_wrong H hi6 (by omega) (by omega) hI (fun ws' h => kn _ _ ws' (Nat.le_refl _) (Nat.le_refl _) h))
      | 12, _ => exact g_tabIn (tgt := 554) K dL_law_33 (by decide) (by decide) rfl (by decide) (law_moved H hi6 (by omega) (by omega) hI (fun ws' h => kn _ _ ws' (Nat.le_refl _) (Nat.le_refl _) h))
      | 13, _ => exact g_tabIn (tgt := 587) K dL_law_33 (by decide) (by decide) rfl (by decide) (law_best H hi6 (by omega) (by omega) hI (fun ws' h => kn _ _ ws' (Nat.le_refl _) (Nat.le_refl _) h))
      | 14, _ => exact g_tabIn (tgt := 620) K dL_law_33 (by decide) (by decide) rfl (by decide) (law_asked H hi6 (by omega) (by omega) hI (fun ws' h => kn _ _ ws' (Nat.le_refl _) (Nat.le_refl _) h))
      | 15, _ => exact g_tabIn (tgt := 653) K dL_law_33 (by decide) (by decide) rfl (by decide) (law_swap H hi6 (by omega) (by omega) hI (fun ws' h => kn _ _ ws' (Nat.le_refl _) (Nat.le_refl _) h))
      | 16, _ => exact g_tabIn (tgt := 676) K dL_law_33 (by decide) (by decide) rfl (by decide) (law_year H hi6 (by omega) (by omega) hI (fun ws' h => kn _ _ ws' (Nat.le_refl _) (Nat.le_refl _) h))
      | 17, _ => exact g_tabIn (tgt := 689) K dL_law_33 (by decide) (by decide) rfl (by decide) (law_years H hi6 (by omega) (by omega) hI (fun ws' h => kn _ _ ws' (Nat.le_refl _) (Nat.le_refl _) h))
      | 18, _ => exact g_tabIn (tgt := 732) K dL_law_33 (by decide) (by decide) rfl (by decide) (law_chance H hi6 (by omega) (by omega) hI (fun ws' h => kn _ _ ws' (Nat.le_refl _) (Nat.le_refl _) h))
      | 19, _ => exact g_tabIn (tgt := 796) K dL_law_33 (by decide) (by decide) rfl (by decide) (law_book H hi6 (by omega) (by omega) hI (fun ws' h => kn _ _ ws' (Nat.le_refl _) (Nat.le_refl _) h))
      | 20, _ => exact g_tabIn (tgt := 839) K dL_law_33 (by decide) (by decide) rfl (by decide) (law_clear H hi6 (by omega) (by omega) hI (fun ws' h => kn _ _ ws' (Nat.le_refl _) (Nat.le_refl _) h))
      | 21, _ => exact g_tabIn (tgt := 852) K dL_law_33 (by decide) (by decide) rfl (by decide) (law_nets H hi6 (by omega) (by omega) hI (fun ws' h => kn _ _ ws' (Nat.le_refl _) (Nat.le_refl _) h))
      | 22, _ => exact g_tabIn (tgt := 875) K dL_law_33 (by decide) (by decide) rfl (by decide) (law_leans H hi6 (by omega) (by omega) hI (fun ws' h => kn _ _ ws' (Nat.le_refl _) (Nat.le_refl _) h))
      | 23, _ => exact g_tabIn (tgt := 919) K dL_law_33 (by decide) (by decide) rfl (by decide) (law_looked H hi6 (by omega) (by omega) hI (fun ws' h => kn _ _ ws' (Nat.le_refl _) (Nat.le_refl _) h))
      | 24, _ => exact g_tabIn (tgt := 932) K dL_law_33 (by decide) (by decide) rfl (by decide) (law_act H hi6 (by omega) (by omega) hI (fun ws' h => kn _ _ ws' (Nat.le_refl _) (Nat.le_refl _) h))
      | 25, _ => exact g_tabIn (tgt := 975) K dL_law_33 (by decide) (by decide) rfl (by decide) (law_trace H hi6 (by omega) (by omega) hI (fun ws' h => kn _ _ ws' (Nat.le_refl _) (Nat.le_refl _) h))
      | 26, _ => exact g_tabIn (tgt := 998) K dL_law_33 (by decide) (by decide) rfl (by decide) (law_as H hi6 (by omega) (by omega) hI (fun ws' h => kn _ _ ws' (Nat.le_refl _) (Nat.le_refl _) h))
      | 27, _ => exact g_tabIn (tgt := 1031) K dL_law_33 (by decide) (by decide) rfl (by decide) (law_image H hi6 (by omega) (by omega) hI (fun ws' h => kn _ _ ws' (Nat.le_refl _) (Nat.le_refl _) h))
      | 28, _ => exact g_tabIn (tgt := 1044) K dL_law_33 (by decide) (by decide) rfl (by decide) (law_undo H hi6 (by omega) (by omega) hI (fun ws' h => kn _ _ ws' (Nat.le_refl _) (Nat.le_refl _) h))
      | 29, _ => exact g_tabIn (tgt := 1057) K dL_law_33 (by decide) (by decide) rfl (by decide) (law_count H hi6 (by omega) (by omega) hI (fun ws' h => kn _ _ ws' (Nat.le_refl _) (Nat.le_refl _) h))
      | 30, _ => exact g_wid (by omega) (by omega) (g_tabOut (tgt := 1080) K dL_law_33 (by decide) (by decide) (kn _ _ ws (Nat.le_refl _) (Nat.le_refl _) hI))
      | 31, _ => exact g_wid (by omega) (by omega) (g_tabOut (tgt := 1080) K dL_law_33 (by decide) (by decide) (kn _ _ ws (Nat.le_refl _) (Nat.le_refl _) hI))
      | c + 32, hc => exact absurd hc (Nat.not_lt.mpr (Nat.le_add_left _ _))

def s_0 : Nat → Int32 := upd (upd (upd (fun _ => 0) 56 (-1)) 57 50) 58 50
def qf (b0 b1 b2 b3 b4 x : Nat) : Nat → Nat
  | 0 => b0
  | 1 => b1
  | 2 => b2
  | 3 => b3
  | 4 => b4
  | _ => x
def wf (a8 a9 a10 a11 a12 a13 a14 a15 a16 a17 : Nat) : Nat → Nat
  | 8 => a8
  | 9 => a9
  | 10 => a10
  | 11 => a11
  | 12 => a12
  | 13 => a13
  | 14 => a14
  | 15 => a15
  | 16 => a16
  | _ => a17
def gff (g0 g1 g2 g3 g5 : Nat) : Nat → Nat
  | 0 => g0
  | 1 => g1
  | 2 => g2
  | 3 => g3
  | _ => g5
def rf (f0 f1 f2 f3 f4 f5 : Nat → Nat) : Nat → Nat → Nat
  | 0 => f0
  | 1 => f1
  | 2 => f2
  | 3 => f3
  | 4 => f4
  | _ => f5
def mrf (a1 a2 a3 a10 a11 a12 a13 a14 a15 a16 a17 : Nat) : Nat → Nat
  | 1 => a1
  | 2 => a2
  | 3 => a3
  | 10 => a10
  | 11 => a11
  | 12 => a12
  | 13 => a13
  | 14 => a14
  | 15 => a15
  | 16 => a16
  | _ => a17
def o_0 : Nat → Int32
  | 6 => 50
  | 7 => 50
  | _ => 0
def A_0 : Nat → Nat → Int32
  | 1 => s_0
  | _ => fun _ => 0
def F_0 (pl : Nat) : gF := ((fun _ => false), (fun _ => 0), (fun _ => 0), (fun _ => 0), (fun _ => 0), (fun _ => false), (fun _ _ => 0), (fun _ _ => 0), (fun _ _ _ => 0), (fun _ => 0), pl)
theorem gAH_at2 {F : gF} {B b : Nat} {I : Nat → Int32} {R : Nat → Nat} {a : Nat → Nat → Int32} {N : Nat} (h : b = B) : hsv (gAH F B I R a N) b = true ∧ (∀ k, hI (gAH F B I R a N) b k = I k) ∧ hn (gAH F B I R a N) b = N := by
  subst h
  obtain ⟨e1, e3, -, -, e5⟩ := gAH_at (F := F) (B := b) (I := I) (R := R) (a := a) (N := N)
  exact ⟨e1, e3, e5⟩
theorem s0_z {k : Nat} (h : k < 56 ∨ 58 < k) : s_0 k = nI 0 := by
  unfold s_0
  rw [pk_un (by omega), pk_un (by omega), pk_un (by omega)]; rfl
theorem s0_56 : s_0 56 = -nI 1 := by decide
theorem s0_57 : s_0 57 = nI 50 := by decide
theorem s0_58 : s_0 58 = nI 50 := by decide
/-- the first state, seen by a world whose house is empty -/
theorem sw_0 {F : gF} {h : Nat} (h1 : hsv F h = true) (h2 : ∀ k, hI F h k = hOf 0 k) (h3 : hn F h = 0) : SW F o_0 (fun _ _ => 0) (fun _ => none) h s_0 := by
  refine ⟨⟨0, 0, 0, 0, 0, 0, ?_⟩, ?_⟩
  · refine ⟨⟨s0_z (by omega), by decide, s0_z (by omega), by decide, s0_z (by omega), by decide, fun w hw => absurd hw (Nat.not_lt_zero _), fun c hc => absurd hc (Nat.not_lt_zero _)⟩, by decide, s0_z (by omega), by decide, s0_z (by omega), by decide, s0_z (by omega), by decide, ⟨50, by decide, s0_57⟩, ⟨50, by decide, s0_58⟩, fun r hr => absurd hr (Nat.not_lt_zero _), fun j hj => ⟨0, by decide, s0_z (by omega)⟩, s0_56⟩
  · have e51 : ∀ k, (k < 56 ∨ 58 < k) → (0 : Int32) = s_0 k := fun k hk => (s0_z hk).symm
    have e56 := s0_56
    refine ⟨⟨e51 51 (by omega), e51 52 (by omega), e51 53 (by omega), e51 54 (by omega), e51 55 (by omega), e51 0 (by omega), s0_57.symm, s0_58.symm⟩, fun w hw => ⟨e51 _ (by omega), e51 _ (by omega), e51 _ (by omega), e51 _ (by omega), e51 _ (by omega)⟩, fun r hr => ⟨e51 _ (by omega), e51 _ (by omega), e51 _ (by omega)⟩, fun j hj => e51 _ (by omega), fun c hc => ?_, fun c hc => rfl, ?_⟩
    · rw [s0_z (by omega), show nn (nI 0) = 0 from rfl] at hc
      exact absurd hc (Nat.not_lt_zero _)
    · have ht : ∀ (k : Nat) (f : Nat), 57 ≤ k → k < 900 → pX12_tellsOf s_0 (nI k) (nI f) = some (nI f) := fun k f k1 k2 => by
        unfold pX12_tellsOf
        simp (disch := omega) only [n_lit, nI_add, nI_1, n_cl, gck_in, gck_t, gck_T, ↓gnm_e, gbd_s, ↓reduceIte, n_leT, n_leF, n_ltT, n_ltF, n_eqT, n_eqF, Nat.add_zero, Nat.zero_add, e56]
      refine ⟨h1, ⟨10, by decide, ?_, h2 0⟩, ⟨0, by decide, ?_, h2 1⟩, ⟨10, by decide, ?_, h2 2⟩, 112, 0, ht 247 0 (by omega) (by omega), by rw [e56]; decide, h2 10, Nat.zero_le _, by rw [h3]; decide, by decide, Or.inl rfl, fun _ => 0, rfl, fun _ _ => Nat.zero_le _, fun i hi => absurd hi (Nat.not_lt_zero _)⟩
      · unfold pX12_told; rw [if_pos rfl, show (232 : Int32) = nI 232 from rfl, show (10 : Int32) = nI 10 from rfl, ht 232 10 (by omega) (by omega), gbd_s]
      · unfold pX12_told; rw [if_neg (by decide), if_pos rfl, show (237 : Int32) = nI 237 from rfl, show (0 : Int32) = nI 0 from rfl, ht 237 0 (by omega) (by omega), gbd_s]
      · unfold pX12_told; rw [if_neg (by decide), if_neg (by decide), if_pos rfl, show (242 : Int32) = nI 242 from rfl, show (10 : Int32) = nI 10 from rfl, ht 242 10 (by omega) (by omega), gbd_s]
set_option maxHeartbeats 4000000 in
set_option maxRecDepth 100000 in
theorem law_begin {Γ : gT} {b L : Nat} {xs : Nat → Int32} (H : LK Γ b L xs) (hao : va_AO "ChiefGrades$Chief" (g_s Γ)) (hend : ∀ (cl sl : Nat) (L' : List (Nat × Value)) (ws : va_W), cl ≤ 600000 → sl ≤ 7302250 → gGO Γ cl sl 1087 L' [.int 1] ws) : gGO Γ 0 0 0 [(0, .ref b)] [] [] := by
  obtain ⟨K, hRm, hn4, hfz, hX, hbl, hbA, hL⟩ := id H
  have hlt : ∀ i, i < 4 → i < g_n Γ := fun i q => by rw [hn4]; exact q
  refine g_new (T := TX11) (ty0 := tyX11) (ci := 11) K hin_X11 tyX11_ok u_89 u_90 u_68 rfl dfX11 hRm (by decide) dL_law_0 (fun qx => ?_)
  refine g_dup K dL_law_3 rfl ?_
  refine g_callIvA (As := []) (bytes := cX11_init) (maxL := 1) K (ctX11_init (ws := []) qx) hao (gu_c u_93) rfl u_68 u_91 u_92 rfl qi_X11_init hRm rfl rfl rfl (by decide) (Nat.le_of_ble_eq_true rfl) (by decide) dL_law_4 (fun w hw => ?_)
  obtain ⟨b0, w0_a8, w0_a9, w0_a10, w0_a11, w0_a12, w0_a13, w0_a14, w0_a15, w0_a16, w0_a17, w0_tx, w0_h, w0_st, w0_le, w0_mo, b1, w1_a8, w1_a9, w1_a10, w1_a11, w1_a12, w1_a13, w1_a14, w1_a15, w1_a16, w1_a17, w1_tx, w1_h, w1_st, w1_le, w1_mo, b2, w2_a8, w2_a9, w2_a10, w2_a11, w2_a12, w2_a13, w2_a14, w2_a15, w2_a16, w2_a17, w2_tx, w2_h, w2_st, w2_le, w2_mo, b3, g_g0, g_g1, g_g2, g_g3, g_g5, g_pl, b4, t_a, bf, rfl⟩ := hw
  refine g_astore_n K dL_law_7 rfl (hlt 1 (by decide)) rfl ?_
  refine g_new (T := TX12) (ty0 := tyX12) (ci := 12) K hin_X12 tyX12_ok u_974 u_975 u_75 rfl dfX12 hRm (by decide) dL_law_8 (fun mq => ?_)
  refine g_dup K dL_law_11 rfl ?_
  refine g_callIv (As := []) (bytes := cX12_init) (maxL := 1) K (ctX12_init (ws := xInit (g_E Γ) qx b0 w0_a8 w0_a9 w0_a10 w0_a11 w0_a12 w0_a13 w0_a14 w0_a15 w0_a16 w0_a17 w0_tx w0_h w0_st w0_le w0_mo b1 w1_a8 w1_a9 w1_a10 w1_a11 w1_a12 w1_a13 w1_a14 w1_a15 w1_a16 w1_a17 w1_tx w1_h w1_st w1_le w1_mo b2 w2_a8 w2_a9 w2_a10 w2_a11 w2_a12 w2_a13 w2_a14 w2_a15 w2_a16 w2_a17 w2_tx w2_h w2_st w2_le w2_mo b3 g_g0 g_g1 g_g2 g_g3 g_g5 g_pl b4 t_a bf []) mq) (gu_c u_978) rfl u_75 u_976 u_977 rfl qi_X12_init hRm rfl rfl rfl (by decide) (Nat.le_of_ble_eq_true rfl) (by decide) dL_law_12 (fun w hw => ?_)
  obtain ⟨m1, m2, m3, m10, m11, m12, m13, m14, m15, m16, m17, rfl⟩ := hw
  refine g_astore_n K dL_law_15 rfl (hlt 2 (by decide)) rfl ?_
  refine g_iconst (v := 0) K dL_law_16 (by decide) ?_
  refine g_istore_n K dL_law_17 rfl (hlt 3 (by decide)) rfl ?_
  refine g_sub (L' := [(0, .ref b), (1, .ref qx), (2, .ref mq), (3, .int (nI (6 * 0)))]) [3, 2, 1, 0] rfl ?_
  refine g_ws (ws' := (mInit (g_E Γ) mq m1 m2 m3 m10 m11 m12 m13 m14 m15 m16 m17 ++ xInit (g_E Γ) qx b0 w0_a8 w0_a9 w0_a10 w0_a11 w0_a12 w0_a13 w0_a14 w0_a15 w0_a16 w0_a17 w0_tx w0_h w0_st w0_le w0_mo b1 w1_a8 w1_a9 w1_a10 w1_a11 w1_a12 w1_a13 w1_a14 w1_a15 w1_a16 w1_a17 w1_tx w1_h w1_st w1_le w1_mo b2 w2_a8 w2_a9 w2_a10 w2_a11 w2_a12 w2_a13 w2_a14 w2_a15 w2_a16 w2_a17 w2_tx w2_h w2_st w2_le w2_mo b3 g_g0 g_g1 g_g2 g_g3 g_g5 g_pl b4 t_a bf []) ++ []) (List.append_nil _).symm ?_
  refine g_perm (ws := []) (mInit (g_E Γ) mq m1 m2 m3 m10 m11 m12 m13 m14 m15 m16 m17 ++ xInit (g_E Γ) qx b0 w0_a8 w0_a9 w0_a10 w0_a11 w0_a12 w0_a13 w0_a14 w0_a15 w0_a16 w0_a17 w0_tx w0_h w0_st w0_le w0_mo b1 w1_a8 w1_a9 w1_a10 w1_a11 w1_a12 w1_a13 w1_a14 w1_a15 w1_a16 w1_a17 w1_tx w1_h w1_st w1_le w1_mo b2 w2_a8 w2_a9 w2_a10 w2_a11 w2_a12 w2_a13 w2_a14 w2_a15 w2_a16 w2_a17 w2_tx w2_h w2_st w2_le w2_mo b3 g_g0 g_g1 g_g2 g_g3 g_g5 g_pl b4 t_a bf []) (cw (g_E Γ) (qf b0 b1 b2 b3 b4 qx) (rf (wf w0_a8 w0_a9 w0_a10 w0_a11 w0_a12 w0_a13 w0_a14 w0_a15 w0_a16 w0_a17) (wf w1_a8 w1_a9 w1_a10 w1_a11 w1_a12 w1_a13 w1_a14 w1_a15 w1_a16 w1_a17) (wf w2_a8 w2_a9 w2_a10 w2_a11 w2_a12 w2_a13 w2_a14 w2_a15 w2_a16 w2_a17) (gff g_g0 g_g1 g_g2 g_g3 g_g5) (fun _ => t_a) (fun _ => bf)) g_pl o_0 (fun _ _ => 0) (fun _ => none) w0_h o_0 (fun _ _ => 0) (fun _ => none) w1_h o_0 (fun _ _ => 0) (fun _ => none) w2_h 0 (fun _ _ => 0) 0 (fun _ => 0) (fun _ => 0) 0 ++ ([(w0_h, .inr (2, [.int 10, .int 0, .int 10, .ref w0_tx, .int (nI 0), .int 0, .int 0, .ref w0_st, .ref w0_le, .ref w0_mo, .int 0])), (w0_st, .inl (gI (g_E Γ), 0, .inl (fun _ => 0))), (w0_le, .inl (gI (g_E Γ), 0, .inl (fun _ => 0))), (w0_mo, .inl (gI (g_E Γ), 0, .inl (fun _ => 0))), (w1_h, .inr (2, [.int 10, .int 0, .int 10, .ref w1_tx, .int (nI 0), .int 0, .int 0, .ref w1_st, .ref w1_le, .ref w1_mo, .int 0])), (w1_st, .inl (gI (g_E Γ), 0, .inl (fun _ => 0))), (w1_le, .inl (gI (g_E Γ), 0, .inl (fun _ => 0))), (w1_mo, .inl (gI (g_E Γ), 0, .inl (fun _ => 0))), (w2_h, .inr (2, [.int 10, .int 0, .int 10, .ref w2_tx, .int (nI 0), .int 0, .int 0, .ref w2_st, .ref w2_le, .ref w2_mo, .int 0])), (w2_st, .inl (gI (g_E Γ), 0, .inl (fun _ => 0))), (w2_le, .inl (gI (g_E Γ), 0, .inl (fun _ => 0))), (w2_mo, .inl (gI (g_E Γ), 0, .inl (fun _ => 0))), (g_pl, .inr (0, [.int 0, .int 0, .int 0, .int 0]))] ++ mw (g_E Γ) mq (mrf m1 m2 m3 m10 m11 m12 m13 m14 m15 m16 m17) (fun _ => 0) A_0)) [13, 55, 39, 23, 16, 14, 56, 57, 58, 59, 60, 61, 62, 63, 64, 65, 40, 41, 42, 43, 44, 45, 46, 47, 48, 49, 24, 25, 26, 27, 28, 29, 30, 31, 32, 33, 17, 18, 19, 20, 21, 15, 12, 67, 68, 69, 70, 51, 52, 53, 54, 35, 36, 37, 38, 22, 0, 1, 2, 3, 4, 5, 6, 7, 8, 9, 10, 11] (by decide) rfl ?_
  refine g_ws (ws' := cw (g_E Γ) (qf b0 b1 b2 b3 b4 qx) (rf (wf w0_a8 w0_a9 w0_a10 w0_a11 w0_a12 w0_a13 w0_a14 w0_a15 w0_a16 w0_a17) (wf w1_a8 w1_a9 w1_a10 w1_a11 w1_a12 w1_a13 w1_a14 w1_a15 w1_a16 w1_a17) (wf w2_a8 w2_a9 w2_a10 w2_a11 w2_a12 w2_a13 w2_a14 w2_a15 w2_a16 w2_a17) (gff g_g0 g_g1 g_g2 g_g3 g_g5) (fun _ => t_a) (fun _ => bf)) g_pl o_0 (fun _ _ => 0) (fun _ => none) w0_h o_0 (fun _ _ => 0) (fun _ => none) w1_h o_0 (fun _ _ => 0) (fun _ => none) w2_h 0 (fun _ _ => 0) 0 (fun _ => 0) (fun _ => 0) 0 ++ ([(w0_h, .inr (2, [.int 10, .int 0, .int 10, .ref w0_tx, .int (nI 0), .int 0, .int 0, .ref w0_st, .ref w0_le, .ref w0_mo, .int 0])), (w0_st, .inl (gI (g_E Γ), 0, .inl (fun _ => 0))), (w0_le, .inl (gI (g_E Γ), 0, .inl (fun _ => 0))), (w0_mo, .inl (gI (g_E Γ), 0, .inl (fun _ => 0))), (w1_h, .inr (2, [.int 10, .int 0, .int 10, .ref w1_tx, .int (nI 0), .int 0, .int 0, .ref w1_st, .ref w1_le, .ref w1_mo, .int 0])), (w1_st, .inl (gI (g_E Γ), 0, .inl (fun _ => 0))), (w1_le, .inl (gI (g_E Γ), 0, .inl (fun _ => 0))), (w1_mo, .inl (gI (g_E Γ), 0, .inl (fun _ => 0))), (w2_h, .inr (2, [.int 10, .int 0, .int 10, .ref w2_tx, .int (nI 0), .int 0, .int 0, .ref w2_st, .ref w2_le, .ref w2_mo, .int 0])), (w2_st, .inl (gI (g_E Γ), 0, .inl (fun _ => 0))), (w2_le, .inl (gI (g_E Γ), 0, .inl (fun _ => 0))), (w2_mo, .inl (gI (g_E Γ), 0, .inl (fun _ => 0))), (g_pl, .inr (0, [.int 0, .int 0, .int 0, .int 0]))] ++ mw (g_E Γ) mq (mrf m1 m2 m3 m10 m11 m12 m13 m14 m15 m16 m17) (fun _ => 0) A_0)) (List.append_nil _) ?_
  refine g_ds (fun hds => ?_)
  have hdf : gDs [(w0_h, .inr (2, [.int 10, .int 0, .int 10, .ref w0_tx, .int (nI 0), .int 0, .int 0, .ref w0_st, .ref w0_le, .ref w0_mo, .int 0])), (w0_st, .inl (gI (g_E Γ), 0, .inl (fun _ => 0))), (w0_le, .inl (gI (g_E Γ), 0, .inl (fun _ => 0))), (w0_mo, .inl (gI (g_E Γ), 0, .inl (fun _ => 0))), (w1_h, .inr (2, [.int 10, .int 0, .int 10, .ref w1_tx, .int (nI 0), .int 0, .int 0, .ref w1_st, .ref w1_le, .ref w1_mo, .int 0])), (w1_st, .inl (gI (g_E Γ), 0, .inl (fun _ => 0))), (w1_le, .inl (gI (g_E Γ), 0, .inl (fun _ => 0))), (w1_mo, .inl (gI (g_E Γ), 0, .inl (fun _ => 0))), (w2_h, .inr (2, [.int 10, .int 0, .int 10, .ref w2_tx, .int (nI 0), .int 0, .int 0, .ref w2_st, .ref w2_le, .ref w2_mo, .int 0])), (w2_st, .inl (gI (g_E Γ), 0, .inl (fun _ => 0))), (w2_le, .inl (gI (g_E Γ), 0, .inl (fun _ => 0))), (w2_mo, .inl (gI (g_E Γ), 0, .inl (fun _ => 0))), (g_pl, .inr (0, [.int 0, .int 0, .int 0, .int 0]))] := fun p hp q hq => hds p (List.mem_append_right _ (List.mem_append_left _ hp)) q (List.mem_append_right _ (List.mem_append_left _ hq))
  have z0 : gFz (gExt (g_E Γ) [(w0_h, .inr (2, [.int 10, .int 0, .int 10, .ref w0_tx, .int (nI 0), .int 0, .int 0, .ref w0_st, .ref w0_le, .ref w0_mo, .int 0])), (w0_st, .inl (gI (g_E Γ), 0, .inl (fun _ => 0))), (w0_le, .inl (gI (g_E Γ), 0, .inl (fun _ => 0))), (w0_mo, .inl (gI (g_E Γ), 0, .inl (fun _ => 0))), (w1_h, .inr (2, [.int 10, .int 0, .int 10, .ref w1_tx, .int (nI 0), .int 0, .int 0, .ref w1_st, .ref w1_le, .ref w1_mo, .int 0])), (w1_st, .inl (gI (g_E Γ), 0, .inl (fun _ => 0))), (w1_le, .inl (gI (g_E Γ), 0, .inl (fun _ => 0))), (w1_mo, .inl (gI (g_E Γ), 0, .inl (fun _ => 0))), (w2_h, .inr (2, [.int 10, .int 0, .int 10, .ref w2_tx, .int (nI 0), .int 0, .int 0, .ref w2_st, .ref w2_le, .ref w2_mo, .int 0])), (w2_st, .inl (gI (g_E Γ), 0, .inl (fun _ => 0))), (w2_le, .inl (gI (g_E Γ), 0, .inl (fun _ => 0))), (w2_mo, .inl (gI (g_E Γ), 0, .inl (fun _ => 0))), (g_pl, .inr (0, [.int 0, .int 0, .int 0, .int 0]))]) (F_0 g_pl) := ⟨fun b hb => (by cases hb), fun b hb => by cases hb⟩
  have z1 : gFz (gExt (g_E Γ) [(w0_h, .inr (2, [.int 10, .int 0, .int 10, .ref w0_tx, .int (nI 0), .int 0, .int 0, .ref w0_st, .ref w0_le, .ref w0_mo, .int 0])), (w0_st, .inl (gI (g_E Γ), 0, .inl (fun _ => 0))), (w0_le, .inl (gI (g_E Γ), 0, .inl (fun _ => 0))), (w0_mo, .inl (gI (g_E Γ), 0, .inl (fun _ => 0))), (w1_h, .inr (2, [.int 10, .int 0, .int 10, .ref w1_tx, .int (nI 0), .int 0, .int 0, .ref w1_st, .ref w1_le, .ref w1_mo, .int 0])), (w1_st, .inl (gI (g_E Γ), 0, .inl (fun _ => 0))), (w1_le, .inl (gI (g_E Γ), 0, .inl (fun _ => 0))), (w1_mo, .inl (gI (g_E Γ), 0, .inl (fun _ => 0))), (w2_h, .inr (2, [.int 10, .int 0, .int 10, .ref w2_tx, .int (nI 0), .int 0, .int 0, .ref w2_st, .ref w2_le, .ref w2_mo, .int 0])), (w2_st, .inl (gI (g_E Γ), 0, .inl (fun _ => 0))), (w2_le, .inl (gI (g_E Γ), 0, .inl (fun _ => 0))), (w2_mo, .inl (gI (g_E Γ), 0, .inl (fun _ => 0))), (g_pl, .inr (0, [.int 0, .int 0, .int 0, .int 0]))]) (gAH (F_0 g_pl) w0_h (hOf 0) (hRRf w0_st w0_le w0_mo) (fun _ _ => 0) 0) := gAH_fz z0 ⟨.ref w0_tx, nI 0, 0, 0, gExt_at hdf List.mem_cons_self⟩ (fun k hk => by
    rcases hk with rfl | rfl | rfl
    · exact gExt_at hdf (List.mem_cons_of_mem _ List.mem_cons_self)
    · exact gExt_at hdf (List.mem_cons_of_mem _ (List.mem_cons_of_mem _ List.mem_cons_self))
    · exact gExt_at hdf (List.mem_cons_of_mem _ (List.mem_cons_of_mem _ (List.mem_cons_of_mem _ List.mem_cons_self))))
  have z2 : gFz (gExt (g_E Γ) [(w0_h, .inr (2, [.int 10, .int 0, .int 10, .ref w0_tx, .int (nI 0), .int 0, .int 0, .ref w0_st, .ref w0_le, .ref w0_mo, .int 0])), (w0_st, .inl (gI (g_E Γ), 0, .inl (fun _ => 0))), (w0_le, .inl (gI (g_E Γ), 0, .inl (fun _ => 0))), (w0_mo, .inl (gI (g_E Γ), 0, .inl (fun _ => 0))), (w1_h, .inr (2, [.int 10, .int 0, .int 10, .ref w1_tx, .int (nI 0), .int 0, .int 0, .ref w1_st, .ref w1_le, .ref w1_mo, .int 0])), (w1_st, .inl (gI (g_E Γ), 0, .inl (fun _ => 0))), (w1_le, .inl (gI (g_E Γ), 0, .inl (fun _ => 0))), (w1_mo, .inl (gI (g_E Γ), 0, .inl (fun _ => 0))), (w2_h, .inr (2, [.int 10, .int 0, .int 10, .ref w2_tx, .int (nI 0), .int 0, .int 0, .ref w2_st, .ref w2_le, .ref w2_mo, .int 0])), (w2_st, .inl (gI (g_E Γ), 0, .inl (fun _ => 0))), (w2_le, .inl (gI (g_E Γ), 0, .inl (fun _ => 0))), (w2_mo, .inl (gI (g_E Γ), 0, .inl (fun _ => 0))), (g_pl, .inr (0, [.int 0, .int 0, .int 0, .int 0]))]) (gAH (gAH (F_0 g_pl) w0_h (hOf 0) (hRRf w0_st w0_le w0_mo) (fun _ _ => 0) 0) w1_h (hOf 0) (hRRf w1_st w1_le w1_mo) (fun _ _ => 0) 0) := gAH_fz z1 ⟨.ref w1_tx, nI 0, 0, 0, gExt_at hdf (List.mem_cons_of_mem _ (List.mem_cons_of_mem _ (List.mem_cons_of_mem _ (List.mem_cons_of_mem _ List.mem_cons_self))))⟩ (fun k hk => by
    rcases hk with rfl | rfl | rfl
    · exact gExt_at hdf (List.mem_cons_of_mem _ (List.mem_cons_of_mem _ (List.mem_cons_of_mem _ (List.mem_cons_of_mem _ (List.mem_cons_of_mem _ List.mem_cons_self)))))
    · exact gExt_at hdf (List.mem_cons_of_mem _ (List.mem_cons_of_mem _ (List.mem_cons_of_mem _ (List.mem_cons_of_mem _ (List.mem_cons_of_mem _ (List.mem_cons_of_mem _ List.mem_cons_self))))))
    · exact gExt_at hdf (List.mem_cons_of_mem _ (List.mem_cons_of_mem _ (List.mem_cons_of_mem _ (List.mem_cons_of_mem _ (List.mem_cons_of_mem _ (List.mem_cons_of_mem _ (List.mem_cons_of_mem _ List.mem_cons_self))))))))
  have z3 : gFz (gExt (g_E Γ) [(w0_h, .inr (2, [.int 10, .int 0, .int 10, .ref w0_tx, .int (nI 0), .int 0, .int 0, .ref w0_st, .ref w0_le, .ref w0_mo, .int 0])), (w0_st, .inl (gI (g_E Γ), 0, .inl (fun _ => 0))), (w0_le, .inl (gI (g_E Γ), 0, .inl (fun _ => 0))), (w0_mo, .inl (gI (g_E Γ), 0, .inl (fun _ => 0))), (w1_h, .inr (2, [.int 10, .int 0, .int 10, .ref w1_tx, .int (nI 0), .int 0, .int 0, .ref w1_st, .ref w1_le, .ref w1_mo, .int 0])), (w1_st, .inl (gI (g_E Γ), 0, .inl (fun _ => 0))), (w1_le, .inl (gI (g_E Γ), 0, .inl (fun _ => 0))), (w1_mo, .inl (gI (g_E Γ), 0, .inl (fun _ => 0))), (w2_h, .inr (2, [.int 10, .int 0, .int 10, .ref w2_tx, .int (nI 0), .int 0, .int 0, .ref w2_st, .ref w2_le, .ref w2_mo, .int 0])), (w2_st, .inl (gI (g_E Γ), 0, .inl (fun _ => 0))), (w2_le, .inl (gI (g_E Γ), 0, .inl (fun _ => 0))), (w2_mo, .inl (gI (g_E Γ), 0, .inl (fun _ => 0))), (g_pl, .inr (0, [.int 0, .int 0, .int 0, .int 0]))]) (gAH (gAH (gAH (F_0 g_pl) w0_h (hOf 0) (hRRf w0_st w0_le w0_mo) (fun _ _ => 0) 0) w1_h (hOf 0) (hRRf w1_st w1_le w1_mo) (fun _ _ => 0) 0) w2_h (hOf 0) (hRRf w2_st w2_le w2_mo) (fun _ _ => 0) 0) := gAH_fz z2 ⟨.ref w2_tx, nI 0, 0, 0, gExt_at hdf (List.mem_cons_of_mem _ (List.mem_cons_of_mem _ (List.mem_cons_of_mem _ (List.mem_cons_of_mem _ (List.mem_cons_of_mem _ (List.mem_cons_of_mem _ (List.mem_cons_of_mem _ (List.mem_cons_of_mem _ List.mem_cons_self))))))))⟩ (fun k hk => by
    rcases hk with rfl | rfl | rfl
    · exact gExt_at hdf (List.mem_cons_of_mem _ (List.mem_cons_of_mem _ (List.mem_cons_of_mem _ (List.mem_cons_of_mem _ (List.mem_cons_of_mem _ (List.mem_cons_of_mem _ (List.mem_cons_of_mem _ (List.mem_cons_of_mem _ (List.mem_cons_of_mem _ List.mem_cons_self)))))))))
    · exact gExt_at hdf (List.mem_cons_of_mem _ (List.mem_cons_of_mem _ (List.mem_cons_of_mem _ (List.mem_cons_of_mem _ (List.mem_cons_of_mem _ (List.mem_cons_of_mem _ (List.mem_cons_of_mem _ (List.mem_cons_of_mem _ (List.mem_cons_of_mem _ (List.mem_cons_of_mem _ List.mem_cons_self))))))))))
    · exact gExt_at hdf (List.mem_cons_of_mem _ (List.mem_cons_of_mem _ (List.mem_cons_of_mem _ (List.mem_cons_of_mem _ (List.mem_cons_of_mem _ (List.mem_cons_of_mem _ (List.mem_cons_of_mem _ (List.mem_cons_of_mem _ (List.mem_cons_of_mem _ (List.mem_cons_of_mem _ (List.mem_cons_of_mem _ List.mem_cons_self))))))))))))
  have z4 : gFz (gExt (g_E Γ) [(w0_h, .inr (2, [.int 10, .int 0, .int 10, .ref w0_tx, .int (nI 0), .int 0, .int 0, .ref w0_st, .ref w0_le, .ref w0_mo, .int 0])), (w0_st, .inl (gI (g_E Γ), 0, .inl (fun _ => 0))), (w0_le, .inl (gI (g_E Γ), 0, .inl (fun _ => 0))), (w0_mo, .inl (gI (g_E Γ), 0, .inl (fun _ => 0))), (w1_h, .inr (2, [.int 10, .int 0, .int 10, .ref w1_tx, .int (nI 0), .int 0, .int 0, .ref w1_st, .ref w1_le, .ref w1_mo, .int 0])), (w1_st, .inl (gI (g_E Γ), 0, .inl (fun _ => 0))), (w1_le, .inl (gI (g_E Γ), 0, .inl (fun _ => 0))), (w1_mo, .inl (gI (g_E Γ), 0, .inl (fun _ => 0))), (w2_h, .inr (2, [.int 10, .int 0, .int 10, .ref w2_tx, .int (nI 0), .int 0, .int 0, .ref w2_st, .ref w2_le, .ref w2_mo, .int 0])), (w2_st, .inl (gI (g_E Γ), 0, .inl (fun _ => 0))), (w2_le, .inl (gI (g_E Γ), 0, .inl (fun _ => 0))), (w2_mo, .inl (gI (g_E Γ), 0, .inl (fun _ => 0))), (g_pl, .inr (0, [.int 0, .int 0, .int 0, .int 0]))]) (gAC (gAH (gAH (gAH (F_0 g_pl) w0_h (hOf 0) (hRRf w0_st w0_le w0_mo) (fun _ _ => 0) 0) w1_h (hOf 0) (hRRf w1_st w1_le w1_mo) (fun _ _ => 0) 0) w2_h (hOf 0) (hRRf w2_st w2_le w2_mo) (fun _ _ => 0) 0) g_pl (nI 0) 0 0 0) := gAC_fz (j := 0) (by decide) rfl z3 (gExt_at hdf (List.mem_cons_of_mem _ (List.mem_cons_of_mem _ (List.mem_cons_of_mem _ (List.mem_cons_of_mem _ (List.mem_cons_of_mem _ (List.mem_cons_of_mem _ (List.mem_cons_of_mem _ (List.mem_cons_of_mem _ (List.mem_cons_of_mem _ (List.mem_cons_of_mem _ (List.mem_cons_of_mem _ (List.mem_cons_of_mem _ List.mem_cons_self)))))))))))))
  have hv : hsv (gAC (gAH (gAH (gAH (F_0 g_pl) w0_h (hOf 0) (hRRf w0_st w0_le w0_mo) (fun _ _ => 0) 0) w1_h (hOf 0) (hRRf w1_st w1_le w1_mo) (fun _ _ => 0) 0) w2_h (hOf 0) (hRRf w2_st w2_le w2_mo) (fun _ _ => 0) 0) g_pl (nI 0) 0 0 0) w0_h = true ∧ (∀ k, hI (gAC (gAH (gAH (gAH (F_0 g_pl) w0_h (hOf 0) (hRRf w0_st w0_le w0_mo) (fun _ _ => 0) 0) w1_h (hOf 0) (hRRf w1_st w1_le w1_mo) (fun _ _ => 0) 0) w2_h (hOf 0) (hRRf w2_st w2_le w2_mo) (fun _ _ => 0) 0) g_pl (nI 0) 0 0 0) w0_h k = hOf 0 k) ∧ hn (gAC (gAH (gAH (gAH (F_0 g_pl) w0_h (hOf 0) (hRRf w0_st w0_le w0_mo) (fun _ _ => 0) 0) w1_h (hOf 0) (hRRf w1_st w1_le w1_mo) (fun _ _ => 0) 0) w2_h (hOf 0) (hRRf w2_st w2_le w2_mo) (fun _ _ => 0) 0) g_pl (nI 0) 0 0 0) w0_h = 0 := by
    show (hsv (gAH (gAH (gAH (F_0 g_pl) w0_h (hOf 0) (hRRf w0_st w0_le w0_mo) (fun _ _ => 0) 0) w1_h (hOf 0) (hRRf w1_st w1_le w1_mo) (fun _ _ => 0) 0) w2_h (hOf 0) (hRRf w2_st w2_le w2_mo) (fun _ _ => 0) 0) w0_h = true ∧ (∀ k, hI (gAH (gAH (gAH (F_0 g_pl) w0_h (hOf 0) (hRRf w0_st w0_le w0_mo) (fun _ _ => 0) 0) w1_h (hOf 0) (hRRf w1_st w1_le w1_mo) (fun _ _ => 0) 0) w2_h (hOf 0) (hRRf w2_st w2_le w2_mo) (fun _ _ => 0) 0) w0_h k = hOf 0 k) ∧ hn (gAH (gAH (gAH (F_0 g_pl) w0_h (hOf 0) (hRRf w0_st w0_le w0_mo) (fun _ _ => 0) 0) w1_h (hOf 0) (hRRf w1_st w1_le w1_mo) (fun _ _ => 0) 0) w2_h (hOf 0) (hRRf w2_st w2_le w2_mo) (fun _ _ => 0) 0) w0_h = 0)
    by_cases e2 : w0_h = w2_h
    · exact gAH_at2 e2
    · obtain ⟨n1, n2, -, -, n5⟩ := gAH_n (F := (gAH (gAH (F_0 g_pl) w0_h (hOf 0) (hRRf w0_st w0_le w0_mo) (fun _ _ => 0) 0) w1_h (hOf 0) (hRRf w1_st w1_le w1_mo) (fun _ _ => 0) 0)) (B := w2_h) (b := w0_h) (I := hOf 0) (R := hRRf w2_st w2_le w2_mo) (a := fun _ _ => 0) (N := 0) e2
      by_cases e1 : w0_h = w1_h
      · obtain ⟨p1, p3, p5⟩ := gAH_at2 (F := (gAH (F_0 g_pl) w0_h (hOf 0) (hRRf w0_st w0_le w0_mo) (fun _ _ => 0) 0)) (I := hOf 0) (R := hRRf w1_st w1_le w1_mo) (a := fun _ _ => 0) (N := 0) e1; exact ⟨n1.trans p1, fun k => (n2 k).trans (p3 k), n5.trans p5⟩
      · obtain ⟨p1, p3, -, -, p5⟩ := gAH_n (F := (gAH (F_0 g_pl) w0_h (hOf 0) (hRRf w0_st w0_le w0_mo) (fun _ _ => 0) 0)) (B := w1_h) (b := w0_h) (I := hOf 0) (R := hRRf w1_st w1_le w1_mo) (a := fun _ _ => 0) (N := 0) e1
        obtain ⟨s1, s3, -, -, s5⟩ := gAH_at (F := (F_0 g_pl)) (B := w0_h) (I := hOf 0) (R := hRRf w0_st w0_le w0_mo) (a := fun _ _ => 0) (N := 0)
        exact ⟨n1.trans (p1.trans s1), fun k => (n2 k).trans ((p3 k).trans (s3 k)), n5.trans (p5.trans s5)⟩
  obtain ⟨a1, a2, a3, a4, a5⟩ := gAC_at (F := (gAH (gAH (gAH (F_0 g_pl) w0_h (hOf 0) (hRRf w0_st w0_le w0_mo) (fun _ _ => 0) 0) w1_h (hOf 0) (hRRf w1_st w1_le w1_mo) (fun _ _ => 0) 0) w2_h (hOf 0) (hRRf w2_st w2_le w2_mo) (fun _ _ => 0) 0)) (B := g_pl) (k := nI 0) (n := 0) (v := 0) (d := 0)
  have hI : LI (g_E Γ) (qf b0 b1 b2 b3 b4 qx) (rf (wf w0_a8 w0_a9 w0_a10 w0_a11 w0_a12 w0_a13 w0_a14 w0_a15 w0_a16 w0_a17) (wf w1_a8 w1_a9 w1_a10 w1_a11 w1_a12 w1_a13 w1_a14 w1_a15 w1_a16 w1_a17) (wf w2_a8 w2_a9 w2_a10 w2_a11 w2_a12 w2_a13 w2_a14 w2_a15 w2_a16 w2_a17) (gff g_g0 g_g1 g_g2 g_g3 g_g5) (fun _ => t_a) (fun _ => bf)) mq (mrf m1 m2 m3 m10 m11 m12 m13 m14 m15 m16 m17) (cw (g_E Γ) (qf b0 b1 b2 b3 b4 qx) (rf (wf w0_a8 w0_a9 w0_a10 w0_a11 w0_a12 w0_a13 w0_a14 w0_a15 w0_a16 w0_a17) (wf w1_a8 w1_a9 w1_a10 w1_a11 w1_a12 w1_a13 w1_a14 w1_a15 w1_a16 w1_a17) (wf w2_a8 w2_a9 w2_a10 w2_a11 w2_a12 w2_a13 w2_a14 w2_a15 w2_a16 w2_a17) (gff g_g0 g_g1 g_g2 g_g3 g_g5) (fun _ => t_a) (fun _ => bf)) g_pl o_0 (fun _ _ => 0) (fun _ => none) w0_h o_0 (fun _ _ => 0) (fun _ => none) w1_h o_0 (fun _ _ => 0) (fun _ => none) w2_h 0 (fun _ _ => 0) 0 (fun _ => 0) (fun _ => 0) 0 ++ ([(w0_h, .inr (2, [.int 10, .int 0, .int 10, .ref w0_tx, .int (nI 0), .int 0, .int 0, .ref w0_st, .ref w0_le, .ref w0_mo, .int 0])), (w0_st, .inl (gI (g_E Γ), 0, .inl (fun _ => 0))), (w0_le, .inl (gI (g_E Γ), 0, .inl (fun _ => 0))), (w0_mo, .inl (gI (g_E Γ), 0, .inl (fun _ => 0))), (w1_h, .inr (2, [.int 10, .int 0, .int 10, .ref w1_tx, .int (nI 0), .int 0, .int 0, .ref w1_st, .ref w1_le, .ref w1_mo, .int 0])), (w1_st, .inl (gI (g_E Γ), 0, .inl (fun _ => 0))), (w1_le, .inl (gI (g_E Γ), 0, .inl (fun _ => 0))), (w1_mo, .inl (gI (g_E Γ), 0, .inl (fun _ => 0))), (w2_h, .inr (2, [.int 10, .int 0, .int 10, .ref w2_tx, .int (nI 0), .int 0, .int 0, .ref w2_st, .ref w2_le, .ref w2_mo, .int 0])), (w2_st, .inl (gI (g_E Γ), 0, .inl (fun _ => 0))), (w2_le, .inl (gI (g_E Γ), 0, .inl (fun _ => 0))), (w2_mo, .inl (gI (g_E Γ), 0, .inl (fun _ => 0))), (g_pl, .inr (0, [.int 0, .int 0, .int 0, .int 0]))] ++ mw (g_E Γ) mq (mrf m1 m2 m3 m10 m11 m12 m13 m14 m15 m16 m17) (fun _ => 0) A_0)) := ⟨(gAC (gAH (gAH (gAH (F_0 g_pl) w0_h (hOf 0) (hRRf w0_st w0_le w0_mo) (fun _ _ => 0) 0) w1_h (hOf 0) (hRRf w1_st w1_le w1_mo) (fun _ _ => 0) 0) w2_h (hOf 0) (hRRf w2_st w2_le w2_mo) (fun _ _ => 0) 0) g_pl (nI 0) 0 0 0), [(w0_h, .inr (2, [.int 10, .int 0, .int 10, .ref w0_tx, .int (nI 0), .int 0, .int 0, .ref w0_st, .ref w0_le, .ref w0_mo, .int 0])), (w0_st, .inl (gI (g_E Γ), 0, .inl (fun _ => 0))), (w0_le, .inl (gI (g_E Γ), 0, .inl (fun _ => 0))), (w0_mo, .inl (gI (g_E Γ), 0, .inl (fun _ => 0))), (w1_h, .inr (2, [.int 10, .int 0, .int 10, .ref w1_tx, .int (nI 0), .int 0, .int 0, .ref w1_st, .ref w1_le, .ref w1_mo, .int 0])), (w1_st, .inl (gI (g_E Γ), 0, .inl (fun _ => 0))), (w1_le, .inl (gI (g_E Γ), 0, .inl (fun _ => 0))), (w1_mo, .inl (gI (g_E Γ), 0, .inl (fun _ => 0))), (w2_h, .inr (2, [.int 10, .int 0, .int 10, .ref w2_tx, .int (nI 0), .int 0, .int 0, .ref w2_st, .ref w2_le, .ref w2_mo, .int 0])), (w2_st, .inl (gI (g_E Γ), 0, .inl (fun _ => 0))), (w2_le, .inl (gI (g_E Γ), 0, .inl (fun _ => 0))), (w2_mo, .inl (gI (g_E Γ), 0, .inl (fun _ => 0))), (g_pl, .inr (0, [.int 0, .int 0, .int 0, .int 0]))], o_0, (fun _ _ => 0), (fun _ => none), w0_h, o_0, (fun _ _ => 0), (fun _ => none), w1_h, o_0, (fun _ _ => 0), (fun _ => none), w2_h, 0, (fun _ _ => 0), 0, (fun _ => 0), (fun _ => 0), 0, (fun _ => 0), A_0, rfl, z4, ⟨a1, a2, a4⟩, sw_0 hv.1 hv.2.1 hv.2.2, Or.inl rfl, fun z => absurd z (by decide), rfl, 0, by decide, rfl, rfl, fun i hi => absurd hi (Nat.not_lt_zero _)⟩
  exact g_wid (by decide) (by decide) (law_loop H hend 65 0 _ (by omega) (by decide) hI)
