/-! PURE SIDE: marks and grades of teams, told of a row alone -/
def MK (s : Nat → Int32) (w c : Nat) : Int32 := match pX12_markOf s (fun _ => 0) (fun _ => 0) (nI w) (nI c) with
  | some r => r.1
  | none => 0
def nn (x : Int32) : Nat := x.toNatClampNeg
def tl (x : Option Int32) : Nat := match x with
  | some v => v.toNatClampNeg
  | none => 0
def WS (s : Nat → Int32) : Nat := nn (s 51)
def TT (s : Nat → Int32) (c : Nat) (w : Nat) : Bool := pT s (WS s) (nI c) w
def TG (s : Nat → Int32) (m : Nat → Int32) (c w : Nat) : Int32 := GR (WS s) (TT s c) m (tl (pX12_told s 0) * kn (TT s c) (WS s) / 10) (tl (pX12_told s 1) * kn (TT s c) (WS s) / 10) (s (60 + c)) (nn (s (64 + c))) (nn (s 0)) w
def chN (s : Nat → Int32) (w : Nat) : Nat := nn (s (31 + w))
/-- the grade that a worker has -/
def GS (s : Nat → Int32) (w : Nat) : Int32 := TG s (fun x => MK s x (chN s w)) (chN s w) w
def WG (F : gF) (s : Nat → Int32) (W C : Nat) (A8 A9 A10 A11 : Nat → Int32) (Cf : Nat → Option Nat) (h : Nat) : Prop := (∀ w, w < W → A8 w = s (1 + w) ∧ A9 w = s (11 + w) ∧ A10 w = s (31 + w) ∧ A11 w = s (41 + w)) ∧ (∀ c, c < C → ∃ b, Cf c = some b ∧ CH F b s c) ∧ HR F h s
theorem bf_congr {p : Nat → Bool} {m m' : Nat → Int32} (h : ∀ x, p x = true → m x = m' x) {w x : Nat} (hw : p w = true) (hx : p x = true) : bf m w x = bf m' w x := by unfold bf; rw [h w hw, h x hx]
theorem pl_congr {W : Nat} {p : Nat → Bool} {m m' : Nat → Int32} (h : ∀ x, p x = true → m x = m' x) {w : Nat} (hw : p w = true) : pl W p m w = pl W p m' w := by
  unfold pl
  apply kn_congr
  intro x _
  by_cases q : p x = true
  · rw [bf_congr h hw q]
  · simp [q]
theorem GR_congr {W : Nat} {p : Nat → Bool} {m m' : Nat → Int32} (h : ∀ x, p x = true → m x = m' x) {f o : Nat} {kd : Int32} {v y w : Nat} (hw : p w = true) : GR W p m f o kd v y w = GR W p m' f o kd v y w := by
  unfold GR g5 lp
  rw [pl_congr h hw, h w hw]
section TM
variable {s : Nat → Int32} {W C y : Nat} {F : gF} {h : Nat}
theorem iv_W (hI : IV s W C y) : WS s = W := by unfold WS nn; rw [hI.1, n_cl (by have := hI.2.1; omega)]
theorem iv_y (hI : IV s W C y) : nn (s 0) = y := by unfold nn; rw [hI.2.2.2.2.1, n_cl (by have := hI.2.2.2.2.2.1; omega)]
theorem iv_ch (hI : IV s W C y) {w : Nat} (hw : w < W) : chN s w < C ∧ s (31 + w) = nI (chN s w) := by
  have h4 := hI.2.2.2.1
  obtain ⟨a, b, d, e, c, z1, z2, z3, z4, z5, e1, e2, e3, e4, e5⟩ := hI.2.2.2.2.2.2.1 w hw
  unfold chN nn
  rw [e5, n_cl (by omega)]
  exact ⟨z5, rfl⟩
theorem iv_T (hI : IV s W C y) {c w : Nat} (hc : c < C) : TT s c w = true ↔ w < W ∧ chN s w = c := by
  have h4 := hI.2.2.2.1
  unfold TT
  rw [iv_W hI, pT_iff]
  constructor
  · intro z
    obtain ⟨z1, z2⟩ := iv_ch hI z.1
    refine ⟨z.1, ?_⟩
    have z3 := z.2
    rw [z2, n_eq (by omega) (by omega)] at z3
    exact z3
  · intro z
    obtain ⟨z1, z2⟩ := iv_ch hI z.1
    exact ⟨z.1, by rw [z2, z.2]⟩
theorem iv_Tlt (hI : IV s W C y) {c : Nat} (w : Nat) (hw : TT s c w = true) : w < W := by
  unfold TT at hw
  rw [iv_W hI] at hw
  exact pT_lt w hw
/-- a mark, on both sides -/
theorem j_mark (hI : IV s W C y) (hH : HR F h s) {w c : Nat} (hw : w < W) (hc : c < C) {B : Nat} (hB : CH F B s c) : (∀ a10 a11, ∃ b10 b11, pX12_markOf s a10 a11 (nI w) (nI c) = some (MK s w c, b10, b11)) ∧ (∀ A8 A9 A10 A11 : Nat → Int32, (∀ w, w < W → A8 w = s (1 + w) ∧ A9 w = s (11 + w) ∧ A10 w = s (31 + w) ∧ A11 w = s (41 + w)) → ∀ g5, ∃ f5, pX1_markBy_w0 F (nI W) (nI y) A8 A9 A10 A11 h g5 (nI w) B = some (MK s w c, f5)) := by
  obtain ⟨g, hg⟩ := fcs_of hI hw hc
  have hI' := hI
  obtain ⟨hW, h10, hC, h4, hy, hy2, hV, hK⟩ := hI'
  obtain ⟨a, b, d, e, c', z1, z2, z3, z4, z5, e1, e2, e3, e4, e5⟩ := hV w hw
  obtain ⟨k, v, d', q1, q2, q3, f1, f2, f3⟩ := hK c hc
  obtain ⟨hh, -, -, -, fr, N, t1, t2, t3⟩ := hH
  obtain ⟨c1, c2, c3, c4, c5⟩ := hB
  have agr_f : ∀ b6 f : Nat → Int32, agr g b6 → agr g f → fct b6 f := fun b6 f x1 x2 => fct_of g hg.2 x1 x2
  obtain ⟨x, u1, k1, k2⟩ := j_raise t3 (agr_f (fun k => nI (g k)) (fun k => nI (g k)) (fun _ _ => rfl) (fun _ _ => rfl)) (fun _ => 0)
  have hR : ∀ a10 a11, ∃ b10 b11, pX12_markOf s a10 a11 (nI w) (nI c) = some (nI (BM k v a b (df d d')) + x, b10, b11) := fun a10 a11 => by
    obtain ⟨b10, m1, m2⟩ := r_moreOf hI hw hc hg t1 t2 a10 a11
    obtain ⟨x', u2, k3, k4⟩ := j_raise t3 (agr_f b10 (fun k => nI (g k)) m1 (fun _ _ => rfl)) a11
    rw [k2] at k4
    cases k4
    exact ⟨b10, u2, r_mark (by omega) (by omega) q1 q2 z1 z2 z3 q3 f1 f2 f3 e1 e2 e3 (m2.trans k3)⟩
  have hMK : MK s w c = nI (BM k v a b (df d d')) + x := by
    obtain ⟨b10, b11, m1⟩ := hR (fun _ => 0) (fun _ => 0)
    unfold MK; rw [m1]
  rw [hMK]
  refine ⟨hR, fun A8 A9 A10 A11 hA g5 => ?_⟩
  obtain ⟨o1, o2, o3, o4⟩ := hA w hw
  have hp : ∀ w, w < W → (pT s W (nI c) w = true ↔ A10 w = nI c) := fun w hw => by
    rw [pT_iff, (hA w hw).2.2.1]; exact ⟨fun z => z.2, fun z => ⟨hw, z⟩⟩
  obtain ⟨⟨g0, g1, g2, g3, g4, g5'⟩, -⟩ := hg
  rw [f1] at g2
  rw [e1, pk_div (by omega) (by decide) (by decide)] at g3
  rw [hy, pk_rem (by omega) (by decide) (by decide)] at g4
  have ag : agr g (upd (upd (upd (upd (upd (upd g5 0 (nI w)) 1 (nI c)) 2 (nI k)) 3 (nI (a / 10))) 4 (nI (y % 10))) 5 (nI (kn (pT s W (nI c)) W))) := by
    refine six (P := fun j => upd (upd (upd (upd (upd (upd g5 0 (nI w)) 1 (nI c)) 2 (nI k)) 3 (nI (a / 10))) 4 (nI (y % 10))) 5 (nI (kn (pT s W (nI c)) W)) j = nI (g j)) ?_ ?_ ?_ ?_ ?_ ?_
    · simp [upd, g0]
    · simp [upd, g1]
    · simpa [upd] using g2
    · simpa [upd] using g3
    · simpa [upd] using g4
    · simp [upd, g5']
  obtain ⟨x', u2, k3, k4⟩ := j_raise t3 (agr_f (fun k => nI (g k)) _ (fun _ _ => rfl) ag) (fun _ => 0)
  rw [k1] at k3
  cases k3
  exact ⟨_, c_mark h10 hw (by omega) q1 q2 z1 z2 z3 q3 c1 (c2.trans f1) c3 (c4.trans f2) (c5.trans f3) (o1.trans e1) (o2.trans e2) (o4.trans e3) hh hp hy2 rfl k4⟩
theorem c_has2 {w : Nat} (h10 : W ≤ 10) (hw : w < W) : pX10_hasWorker_w0 (nI W) (nI w) = some (nI 1) := c_has h10 hw
/-- a team's marks: the component -/
theorem c_marks (hI : IV s W C y) (hH : HR F h s) {c : Nat} (hc : c < C) {B : Nat} (hB : CH F B s c) {A8 A9 A10 A11 : Nat → Int32} (hA : ∀ w, w < W → A8 w = s (1 + w) ∧ A9 w = s (11 + w) ∧ A10 w = s (31 + w) ∧ A11 w = s (41 + w)) {g2 : Nat → Int32} (hg : tm (TT s c) g2) : ∀ k n x : Nat, ∀ g1 g5 : Nat → Int32, x + k = W → k < n → ∃ f1 f5, pX1_markTeam_w0_2 F (nI W) (nI y) A8 A9 A10 A11 h (nI (kn (TT s c) W)) g2 n g1 g5 B (nI (kn (TT s c) x)) = some (f1, f5) ∧ ∀ w, f1 w = if x ≤ w ∧ (TT s c w = true) then MK s w c else g1 w := by
  have h10 := hI.2.1
  have hcW := kn_le (TT s c) W
  intro k
  induction k with
  | zero =>
    intro n x g1 g5 e hn
    obtain ⟨n, rfl⟩ : ∃ j, n = j + 1 := ⟨n - 1, by omega⟩
    have e2 : x = W := by omega
    subst e2
    refine ⟨g1, g5, ?_, fun w => ?_⟩
    · simp (disch := omega) only [pX1_markTeam_w0_2, n_lit, nI_add, nI_1, n_cl, gck_in, gck_t, gck_T, ↓gnm_e, gbd_s, ↓reduceIte, n_leT, n_leF, n_ltT, n_ltF, n_eqT, n_eqF, Nat.add_zero, Nat.zero_add]
    · rw [if_neg (fun z => by have := iv_Tlt hI w z.2; omega)]
  | succ k ih =>
    intro n x g1 g5 e hn
    by_cases q : TT s c x = true
    · obtain ⟨n, rfl⟩ : ∃ j, n = j + 1 := ⟨n - 1, by omega⟩
      have hx2 := kn_lt (show x < W by omega) q
      obtain ⟨f5, hm⟩ := (j_mark hI hH (show x < W by omega) hc hB).2 A8 A9 A10 A11 hA g5
      obtain ⟨f1, f5', k1, k2⟩ := ih n (x + 1) (upd g1 x (MK s x c)) f5 (by omega) (by omega)
      rw [kn_t q] at k1
      refine ⟨f1, f5', ?_, st_put (P := fun w => TT s c w = true) (V := fun w => MK s w c) k2 q rfl⟩
      rw [← k1]
      simp (disch := omega) only [pX1_markTeam_w0_2, n_lit, nI_add, nI_1, n_cl, gck_in, gck_t, gck_T, ↓gnm_e, gbd_s, ↓reduceIte, n_leT, n_leF, n_ltT, n_ltF, n_eqT, n_eqF, Nat.add_zero, Nat.zero_add, hg x q, hm]
    · obtain ⟨f1, f5, k1, k2⟩ := ih n (x + 1) g1 g5 (by omega) (by omega)
      rw [kn_f q] at k1
      exact ⟨f1, f5, k1, st_same (P := fun w => TT s c w = true) (V := fun w => MK s w c) k2 q⟩
theorem hr_tl (hH : HR F h s) : (hsv F h = true) ∧ (tl (pX12_told s 0) ≤ 99 ∧ hI F h 0 = nI (tl (pX12_told s 0)) ∧ pX12_told s 0 = some (nI (tl (pX12_told s 0)))) ∧ (tl (pX12_told s 1) ≤ 99 ∧ hI F h 1 = nI (tl (pX12_told s 1)) ∧ pX12_told s 1 = some (nI (tl (pX12_told s 1)))) ∧ (tl (pX12_told s 2) ≤ 99 ∧ hI F h 2 = nI (tl (pX12_told s 2)) ∧ pX12_told s 2 = some (nI (tl (pX12_told s 2)))) := by
  obtain ⟨h0, ⟨a, a1, a2, a3⟩, ⟨b, b1, b2, b3⟩, ⟨c, c1, c2, c3⟩, -⟩ := hH
  have e1 : tl (some (nI a)) = a := n_cl (by omega)
  have e2 : tl (some (nI b)) = b := n_cl (by omega)
  have e3 : tl (some (nI c)) = c := n_cl (by omega)
  rw [a2, b2, c2, e1, e2, e3]
  exact ⟨h0, ⟨a1, a3, rfl⟩, ⟨b1, b3, rfl⟩, ⟨c1, c3, rfl⟩⟩
theorem iv_v (hI : IV s W C y) {c : Nat} (hc : c < C) : s (64 + c) = nI (nn (s (64 + c))) ∧ nn (s (64 + c)) ≤ 9 := by
  obtain ⟨k, v, d', q1, q2, q3, f1, f2, f3⟩ := hI.2.2.2.2.2.2.2 c hc
  unfold nn
  rw [f2, n_cl (by omega)]
  exact ⟨rfl, q2⟩
theorem c_gteam (hI : IV s W C y) (hH : HR F h s) {c : Nat} (hc : c < C) {B : Nat} (hB : CH F B s c) {A8 A9 A10 A11 : Nat → Int32} (hA : ∀ w, w < W → A8 w = s (1 + w) ∧ A9 w = s (11 + w) ∧ A10 w = s (31 + w) ∧ A11 w = s (41 + w)) (gs : Int32) (g0 g1 g2 g3 g5 : Nat → Int32) : ∃ fs f0 f1 f2 f3 f5, pX1_gradeTeam_w0 F (nI W) (nI y) A8 A9 A10 A11 h gs g0 g1 g2 g3 g5 B = some (sm (TT s c) f0 W, fs, f0, f1, f2, f3, f5) ∧ ∀ w, f0 w = if TT s c w = true then TG s (fun x => MK s x c) c w else g0 w := by
  have hI' := hI
  obtain ⟨hW, h10, hC, h4, hy, hy2, hV, hK⟩ := hI'
  have hp : ∀ w, w < W → (TT s c w = true ↔ A10 w = nI c) := fun w hw => by
    unfold TT; rw [iv_W hI, pT_iff, (hA w hw).2.2.1]; exact ⟨fun z => z.2, fun z => ⟨hw, z⟩⟩
  obtain ⟨f2, k1, k2⟩ := c_gather h10 (fun w hw => iv_Tlt hI w hw) gs g2 (p := TT s c)
  obtain ⟨f1, f5, k3, k4⟩ := c_marks hI hH hc hB hA k2 W 1000 0 g1 g5 (by omega) (by omega)
  obtain ⟨t0, ⟨t1, t2, -⟩, ⟨t3, t4, -⟩, -⟩ := hr_tl hH
  obtain ⟨v1, v2⟩ := iv_v hI hc
  obtain ⟨f0, f3, k5, k6⟩ := c_share (m := f1) (F := F) (b := B) (v := nn (s (64 + c))) h10 (fun w hw => iv_Tlt hI w hw) k2 hB.1 (show y < 1000 by omega) (by omega) (hB.2.2.2.1.trans v1) t0 t2 t4 t1 t3 g0 g3
  refine ⟨nI (kn (TT s c) W), f0, f1, f2, f3, f5, ?_, fun w => ?_⟩
  · unfold pX1_gradeTeam_w0
    have k3' : pX1_markTeam_w0 F (nI W) (nI y) A8 A9 A10 A11 h (nI (kn (TT s c) W)) f2 g1 g5 B = some (f1, f5) := by
      unfold pX1_markTeam_w0; exact k3
    rw [gck_t hB.1, hB.2.2.1, c_team h10 hp, gbd_s, k1, gbd_s, k3', gbd_s, k5, gbd_s]
  · rw [k6 w]
    by_cases q : TT s c w = true
    · rw [if_pos q, if_pos q]
      unfold TG
      rw [iv_W hI, iv_y hI, ← hB.2.1]
      exact GR_congr (fun x hx => by rw [k4 x, if_pos ⟨Nat.zero_le _, hx⟩]) q
    · rw [if_neg q, if_neg q]
end TM
