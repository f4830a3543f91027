/-! PURE SIDE: asked -/
def FV (F : gF) (b : Nat) (x : Int32) : gF := (F.1, F.2.1, F.2.2.1, (fun z => if z = b then x else F.2.2.2.1 z), F.2.2.2.2)
def ra (s : Nat → Int32) (c x : Nat) : Nat → Int32 := upd s (64 + c) (nI x)
def aS (s : Nat → Int32) (W c x : Nat) : Int32 := sm (TT s c) (fun w => TG (ra s c x) (fun z => MK (ra s c x) z c) c w) W
def aV (s : Nat → Int32) (W c v n : Nat) : Nat → Nat → Int32
  | 0, _ => -nI 5
  | k + 1, d => if aS s W c (v + d) < nI n then aV s W c v n k (d + 1) else nI d
section ASK
variable {F : gF} {o : Nat → Int32} {A : Nat → Nat → Int32} {Cf : Nat → Option Nat} {h : Nat} {s : Nat → Int32} {W C y Hn R T : Nat}
theorem ra_n {c x k : Nat} (hk : k ≠ 64 + c) : ra s c x k = s k := pk_un hk
theorem iv_ra (hI : IV s W C y) {c x : Nat} (hc : c < C) (hx : x ≤ 9) : IV (ra s c x) W C y := by
  obtain ⟨hW, h10, hC, h4, hy, hy2, hV, hK⟩ := hI
  refine ⟨(ra_n (by omega)).trans hW, h10, (ra_n (by omega)).trans hC, h4, (ra_n (by omega)).trans hy, hy2, fun w hw => wv_ag (by omega) (fun k hk => ra_n (by omega)) (Nat.le_refl _) (hV w hw), fun c' hc' => ?_⟩
  obtain ⟨k, v, d, q1, q2, q3, f1, f2, f3⟩ := hK c' hc'
  by_cases e : c' = c
  · subst e
    exact ⟨k, x, d, q1, hx, q3, (ra_n (by omega)).trans f1, pk_us, (ra_n (by omega)).trans f3⟩
  · exact ⟨k, v, d, q1, q2, q3, (ra_n (by omega)).trans f1, (ra_n (by omega)).trans f2, (ra_n (by omega)).trans f3⟩
theorem tt_ra {c x c' : Nat} (h10 : W ≤ 10) (hW : s 51 = nI W) : TT (ra s c x) c' = TT s c' := by
  funext w
  unfold TT pT WS
  rw [ra_n (by omega), hW, show nn (nI W) = W from n_cl (by omega)]
  by_cases z : w < W
  · rw [ra_n (by omega)]
  · rw [show decide (w < W) = false from by simp; omega]; rfl
theorem hr_ra (hS : SV s W C y Hn R T) (hH : HR F h s) {c x : Nat} (hc : c < 4) : HR F h (ra s c x) := hr_ag (ra_n (by omega)) (fun k hk => ra_n (by omega)) (sv_56 hS) hH
theorem chs_ra (hB : CHS F s C) (h4 : C ≤ 4) {c x : Nat} (hc : c < C) : ∃ F', HR F' h (ra s c x) = HR F h (ra s c x) ∧ CHS F' (ra s c x) C := by
  obtain ⟨b, hb⟩ := hB c hc
  refine ⟨FV F b (nI x), rfl, fun c' hc' => ?_⟩
  by_cases e : c' = c
  · subst e
    obtain ⟨h1, h2, h3, h4', h5⟩ := hb
    refine ⟨b, h1, h2.trans (ra_n (by omega)).symm, h3, ?_, h5.trans (ra_n (by omega)).symm⟩
    show (if b = b then nI x else _) = _
    rw [if_pos rfl]; exact pk_us.symm
  · obtain ⟨b', k1, k2, k3, k4, k5⟩ := hB c' hc'
    have hbb : b' ≠ b := fun z => by
      subst z
      have := k3.symm.trans hb.2.2.1
      rw [n_eq (by omega) (by omega)] at this
      exact e this
    refine ⟨b', k1, k2.trans (ra_n (by omega)).symm, k3, ?_, k5.trans (ra_n (by omega)).symm⟩
    show (if b' = b then nI x else cv F b') = _
    rw [if_neg hbb, k4]; exact (ra_n (by omega)).symm
theorem r_as79 {t : Nat → Int32} {c : Nat} (hW : t 51 = nI W) (h10 : W ≤ 10) {k40 : (Nat → Int32) → (Nat → Int32) → (Nat → Int32) → (Nat → Int32) → (Nat → Int32) → (Nat → Int32) → Int32 → Int32 → Int32 → Int32 → Int32 → Option (Int32 × (Nat → Int32) × (Nat → Int32) × (Nat → Int32) × (Nat → Int32) × (Nat → Int32) × (Nat → Int32))} {a10 a11 a12 a13 a15 : Nat → Int32} {x2 x3 x4 x5 : Int32} {p : Nat → Bool} (hp : ∀ w, w < W → (p w = true ↔ t (31 + w) = nI c)) : ∀ k n x : Nat, x + k = W → k < n → pX12_asked_79 k40 n t a10 a11 a12 a13 a15 (nI c) x2 x3 x4 x5 (sm p a13 x) (nI x) = if sm p a13 W < x2 then k40 t a10 a11 a12 a13 a15 (nI c) x2 x3 x4 (x5 + nI 1) else k40 t a10 a11 a12 a13 a15 (nI c) x2 x3 x5 (x5 + nI 1) := by
  intro k
  induction k with
  | zero =>
    intro n x e hn
    obtain ⟨n, rfl⟩ : ∃ j, n = j + 1 := ⟨n - 1, by omega⟩
    have e2 : x = W := by omega
    subst e2
    simp (disch := omega) only [pX12_asked_79, n_lit, nI_add, nI_1, n_cl, gck_in, gck_t, gck_T, ↓gnm_e, gbd_s, ↓reduceIte, n_leT, n_leF, n_ltT, n_ltF, n_eqT, n_eqF, Nat.add_zero, Nat.zero_add, hW]
  | succ k ih =>
    intro n x e hn
    obtain ⟨n, rfl⟩ : ∃ j, n = j + 1 := ⟨n - 1, by omega⟩
    have z := ih n (x + 1) (by omega) (by omega)
    by_cases q : t (31 + x) = nI c
    · rw [sm_t ((hp x (by omega)).mpr q)] at z
      rw [← z]
      simp (disch := omega) only [pX12_asked_79, n_lit, nI_add, nI_1, n_cl, gck_in, gck_t, gck_T, ↓gnm_e, gbd_s, ↓reduceIte, n_leT, n_leF, n_ltT, n_ltF, n_eqT, n_eqF, Nat.add_zero, Nat.zero_add, hW, q]
    · rw [sm_f (fun u => q ((hp x (by omega)).mp u))] at z
      rw [← z]
      simp (disch := omega) only [pX12_asked_79, n_lit, nI_add, nI_1, n_cl, gck_in, gck_t, gck_T, ↓gnm_e, gbd_s, ↓reduceIte, n_leT, n_leF, n_ltT, n_ltF, n_eqT, n_eqF, Nat.add_zero, Nat.zero_add, hW, q, n_add0]
theorem r_as40 (hS : SV s W C y Hn R T) (hH : HR F h s) (hB : CHS F s C) {c v m : Nat} (hc : c < C) (hv : s (64 + c) = nI v) (hv9 : v ≤ 9) (hm : m ≤ 50) : ∀ k n d : Nat, ∀ t a10 a11 a12 a13 a15 : Nat → Int32, d + k = 10 - v → k + 1 < n → (∀ j, j ≠ 64 + c → t j = s j) → ∃ r', pX12_asked_40 n t a10 a11 a12 a13 a15 (nI c) (nI m) (nI v) (-nI 5) (nI d) = some (aV s W c v m k d, s, r') := by
  obtain ⟨hI, -⟩ := id hS
  obtain ⟨hW, h10, hC, h4, hy, hy2, hV, hK⟩ := id hI
  have hback : ∀ t : Nat → Int32, (∀ j, j ≠ 64 + c → t j = s j) → upd t (64 + c) (nI v) = s := fun t ht => by
    funext j
    by_cases e : j = 64 + c
    · rw [e, pk_us, hv]
    · rw [pk_un e, ht j e]
  have hset : ∀ t : Nat → Int32, ∀ x, (∀ j, j ≠ 64 + c → t j = s j) → upd t (64 + c) (nI x) = ra s c x := fun t x ht => by
    funext j
    unfold ra
    by_cases e : j = 64 + c
    · rw [e, pk_us, pk_us]
    · rw [pk_un e, pk_un e, ht j e]
  have done : ∀ n d e : Nat, ∀ t a10 a11 a12 a13 a15 : Nat → Int32, 0 < n → e < 1000 → d < 1000 → (∀ j, j ≠ 64 + c → t j = s j) → pX12_asked_40 n t a10 a11 a12 a13 a15 (nI c) (nI m) (nI v) (nI e) (nI d) = some (nI e, s, a10, a11, a12, a13, a15) := fun n d e t a10 a11 a12 a13 a15 hn he hd ht => by
    obtain ⟨n, rfl⟩ : ∃ j, n = j + 1 := ⟨n - 1, by omega⟩
    by_cases z : 9 - v < d
    · simp (disch := omega) only [pX12_asked_40, n_lit, nI_add, nI_1, n_cl, gck_in, gck_t, gck_T, ↓gnm_e, gbd_s, ↓reduceIte, n_leT, n_leF, n_ltT, n_ltF, n_eqT, n_eqF, Nat.add_zero, Nat.zero_add, n_sub, hback t ht]
    · simp (disch := omega) only [pX12_asked_40, n_lit, nI_add, nI_1, n_cl, gck_in, gck_t, gck_T, ↓gnm_e, gbd_s, ↓reduceIte, n_leT, n_leF, n_ltT, n_ltF, n_eqT, n_eqF, Nat.add_zero, Nat.zero_add, n_sub, z_peq, hback t ht]
  intro k
  induction k with
  | zero =>
    intro n d t a10 a11 a12 a13 a15 e hn ht
    obtain ⟨n, rfl⟩ : ∃ j, n = j + 1 := ⟨n - 1, by omega⟩
    exact ⟨(a10, a11, a12, a13, a15), by simp (disch := omega) only [pX12_asked_40, n_lit, nI_add, nI_1, n_cl, gck_in, gck_t, gck_T, ↓gnm_e, gbd_s, ↓reduceIte, n_leT, n_leF, n_ltT, n_ltF, n_eqT, n_eqF, Nat.add_zero, Nat.zero_add, n_sub, hback t ht, aV]⟩
  | succ k ih =>
    intro n d t a10 a11 a12 a13 a15 e hn ht
    obtain ⟨n, rfl⟩ : ∃ j, n = j + 1 := ⟨n - 1, by omega⟩
    have hIr := iv_ra hI (c := c) (x := v + d) hc (by omega)
    obtain ⟨F', hF1, hF2⟩ := chs_ra (F := F) (h := h) (x := v + d) hB h4 hc
    have hHr : HR F' h (ra s c (v + d)) := by rw [hF1]; exact hr_ra hS hH (by omega)
    obtain ⟨b10, b11, b12, b13, b15, k1, k2⟩ := r_gall hIr hHr hF2 a10 a11 a12 a13 a15
    have hp : ∀ w, w < W → (TT s c w = true ↔ ra s c (v + d) (31 + w) = nI c) := fun w hw => by
      rw [tt_eq hI, pT_iff, ra_n (by omega)]; exact ⟨fun z => z.2, fun z => ⟨hw, z⟩⟩
    have k3 := r_as79 (t := ra s c (v + d)) (c := c) hIr.1 h10 (k40 := pX12_asked_40 n) (a10 := b10) (a11 := b11) (a12 := b12) (a13 := b13) (a15 := b15) (x2 := nI m) (x3 := nI v) (x4 := -nI 5) (x5 := nI d) hp W 1000 0 (by omega) (by omega)
    have hsum : sm (TT s c) b13 W = aS s W c (v + d) := by
      unfold aS
      refine sm_congr (fun w hw => ⟨rfl, fun hT => ?_⟩)
      rw [k2 w hw]
      unfold GS
      have hcn : chN (ra s c (v + d)) w = c := by
        have hT2 : TT (ra s c (v + d)) c w = true := by rw [tt_ra h10 hW]; exact hT
        exact ((iv_T hIr hc).mp hT2).2
      rw [hcn]
    rw [hsum] at k3
    have hgo : pX12_asked_40 (n + 1) t a10 a11 a12 a13 a15 (nI c) (nI m) (nI v) (-nI 5) (nI d) = pX12_asked_79 (pX12_asked_40 n) 1000 (ra s c (v + d)) b10 b11 b12 b13 b15 (nI c) (nI m) (nI v) (-nI 5) (nI d) (nI 0) (nI 0) := by
      simp (disch := omega) only [pX12_asked_40, n_lit, nI_add, nI_1, n_cl, gck_in, gck_t, gck_T, ↓gnm_e, gbd_s, ↓reduceIte, n_leT, n_leF, n_ltT, n_ltF, n_eqT, n_eqF, Nat.add_zero, Nat.zero_add, n_sub, z_neqT, hset t (v + d) ht, k1]
    rw [hgo, show (nI 0 : Int32) = sm (TT s c) b13 0 from rfl, show sm (TT s c) b13 0 = sm (TT s c) b13 0 from rfl]
    rw [aV]
    by_cases q : aS s W c (v + d) < nI m
    · rw [if_pos q]
      rw [if_pos q] at k3
      obtain ⟨r', k4⟩ := ih n (d + 1) (ra s c (v + d)) b10 b11 b12 b13 b15 (by omega) (by omega) (fun j hj => ra_n hj)
      rw [n_a1] at k3
      exact ⟨r', k3.trans k4⟩
    · rw [if_neg q]
      rw [if_neg q, n_a1] at k3
      exact ⟨_, k3.trans (done n (d + 1) d _ b10 b11 b12 b13 b15 (by omega) (by omega) (by omega) (fun j hj => ra_n hj))⟩
theorem r_asked (hS : SV s W C y Hn R T) (hH : HR F h s) (hB : CHS F s C) {c v m : Nat} (hc : c < C) (hv : s (64 + c) = nI v) (hv9 : v ≤ 9) (hm : m ≤ 50) (a10 a11 a12 a13 a15 : Nat → Int32) : ∃ r', pX12_asked s a10 a11 a12 a13 a15 (nI c) (nI m) = some (aV s W c v m (10 - v) 0, s, r') := by
  obtain ⟨⟨hW, h10, hC, h4, -⟩, -⟩ := id hS
  have u1 : pX12_in (nI m) (nI 0) (nI 50) = some (nI 1) := in_nT (a := 0) (by omega) hm (by decide)
  have z4 := isc_t hC h4 hc
  obtain ⟨r', k1⟩ := r_as40 hS hH hB hc hv hv9 hm (10 - v) 1000 0 s a10 a11 a12 a13 a15 (by omega) (by omega) (fun _ _ => rfl)
  refine ⟨r', ?_⟩
  rw [← k1]
  unfold pX12_asked
  simp (disch := omega) only [n_lit, nI_add, nI_1, n_cl, gck_in, gck_t, gck_T, ↓gnm_e, gbd_s, ↓reduceIte, n_leT, n_leF, n_ltT, n_ltF, n_eqT, n_eqF, Nat.add_zero, Nat.zero_add, z4, u1, hv]
/-- one asking of the component: a raised chief grades -/
theorem c_ask (hS : SV s W C y Hn R T) (hR : WR F o A Cf h s) {c x B : Nat} (hc : c < C) (hx : x ≤ 9) (hB : CH F B (ra s c x) c) (gs : Int32) (g0 g1 g2 g3 g5 : Nat → Int32) : ∃ r, pX1_gradeTeam_w0 F (o 0) (o 5) (A 8) (A 9) (A 10) (A 11) h gs g0 g1 g2 g3 g5 B = some (aS s W c x, r) := by
  obtain ⟨hI, -⟩ := id hS
  obtain ⟨hW, h10, hC, h4, hy, hy2, hV, hK⟩ := id hI
  obtain ⟨e0, -, -, -, -, e5⟩ := wr_o hS hR
  obtain ⟨fs, f0, f1, f2, f3, f5, k1, k2⟩ := c_gteam (iv_ra hI (x := x) hc hx) (hr_ra hS (wr_hr hR) (by omega)) hc hB (A8 := A 8) (A9 := A 9) (A10 := A 10) (A11 := A 11) (fun w hw => by
    obtain ⟨p8, p9, p10, p11⟩ := wr_wa hS hR w hw
    exact ⟨p8.trans (ra_n (by omega)).symm, p9.trans (ra_n (by omega)).symm, p10.trans (ra_n (by omega)).symm, p11.trans (ra_n (by omega)).symm⟩) gs g0 g1 g2 g3 g5
  rw [tt_ra h10 hW] at k1 k2
  have hsum : sm (TT s c) f0 W = aS s W c x := by
    unfold aS
    exact sm_congr (fun w hw => ⟨rfl, fun hT => by rw [k2 w, if_pos hT]⟩)
  rw [hsum] at k1
  exact ⟨_, by rw [e0, e5, k1]⟩
end ASK
