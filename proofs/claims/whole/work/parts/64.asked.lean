/-! asked: more frozen chiefs -/
section GAC
variable {E : gE} {F : gF} {fl : va_W}
/-- one chief more -/
def gAC (F : gF) (B : Nat) (k n v d : Int32) : gF := ((fun z => if z = B then true else F.1 z), (fun z => if z = B then k else F.2.1 z), (fun z => if z = B then n else F.2.2.1 z), (fun z => if z = B then v else F.2.2.2.1 z), (fun z => if z = B then d else F.2.2.2.2.1 z), F.2.2.2.2.2)
theorem gAC_at {B : Nat} {k n v d : Int32} : chv (gAC F B k n v d) B = true ∧ ck (gAC F B k n v d) B = k ∧ cn (gAC F B k n v d) B = n ∧ cv (gAC F B k n v d) B = v ∧ cd (gAC F B k n v d) B = d := ⟨if_pos rfl, if_pos rfl, if_pos rfl, if_pos rfl, if_pos rfl⟩
theorem gAC_n {B b : Nat} {k n v d : Int32} (h : b ≠ B) : chv (gAC F B k n v d) b = chv F b ∧ ck (gAC F B k n v d) b = ck F b ∧ cn (gAC F B k n v d) b = cn F b ∧ cv (gAC F B k n v d) b = cv F b ∧ cd (gAC F B k n v d) b = cd F b := ⟨if_neg h, if_neg h, if_neg h, if_neg h, if_neg h⟩
theorem gAC_fz {B j : Nat} {k n v d : Int32} (hj : j < 7) (hk : k = nI j) (h : gFz E F) (hat : gfz E B = some (.inr (gKc.getD j 0, [.int k, .int n, .int v, .int d]))) : gFz E (gAC F B k n v d) := by
  refine ⟨fun b hb => ?_, h.2⟩
  by_cases e : b = B
  · subst e
    obtain ⟨e1, e2, e3, e4, e5⟩ := gAC_at (F := F) (B := b) (k := k) (n := n) (v := v) (d := d)
    refine ⟨j, hj, e2.trans hk, ?_⟩
    rw [e2, e3, e4, e5]; exact hat
  · obtain ⟨e1, e2, e3, e4, e5⟩ := gAC_n (F := F) (B := B) (b := b) (k := k) (n := n) (v := v) (d := d) e
    rw [e2, e3, e4, e5]
    rw [e1] at hb
    exact h.1 b hb
theorem gAC_fe {B : Nat} {k n v d : Int32} (hB : ¬ chv F B = true) : FE F (gAC F B k n v d) := by
  refine ⟨fun b hb => ?_, fun h hh => ⟨hh, fun _ => rfl, fun _ => rfl, rfl⟩, rfl⟩
  have e : b ≠ B := fun z => hB (by rw [← z]; exact hb)
  obtain ⟨e1, e2, e3, e4, e5⟩ := gAC_n (F := F) (B := B) (b := b) (k := k) (n := n) (v := v) (d := d) e
  exact ⟨e1.trans hb, e2, e3, e4, e5⟩
theorem gFz_up {E' : gE} (hI : gI E' = gI E) (hk : ∀ a e, gfz E a = some e → gfz E' a = some e) (h : gFz E F) : gFz E' F := by
  refine ⟨fun b hb => ?_, fun b hb => ?_⟩
  · obtain ⟨j, h1, h2, h3⟩ := h.1 b hb
    exact ⟨j, h1, h2, hk _ _ h3⟩
  · obtain ⟨⟨tx, sz, at_, f, h1⟩, h2⟩ := h.2 b hb
    exact ⟨⟨tx, sz, at_, f, hk _ _ h1⟩, fun k z => by rw [hI]; exact hk _ _ (h2 k z)⟩
theorem gFz_ext (hN : ∀ e ∈ fl, gN E e.1) (hX : ∀ a e, gfz E a = some e → ¬ gN E a) (h : gFz E F) : gFz (gExt E fl) F := by
  refine gFz_up (E := E) rfl (fun a e he => ?_) h
  show (match gLk fl a with | some e => some e | none => gfz E a) = some e
  cases hl : gLk fl a with
  | none => exact he
  | some e' => exact absurd (hN _ (gLk_in hl)) (hX a e he)
theorem gFz_more {new : va_W} (h0 : ∀ a, gfz E a = none) (hd : gDs (new ++ fl)) (h : gFz (gExt E fl) F) : gFz (gExt E (new ++ fl)) F := by
  refine gFz_up (E := gExt E fl) rfl (fun a e he => ?_) h
  have he : (match gLk fl a with | some e => some e | none => gfz E a) = some e := he
  refine gExt_at hd (List.mem_append_right _ ?_)
  cases hl : gLk fl a with
  | none => rw [hl, h0] at he; cases he
  | some e' =>
    rw [hl] at he
    rw [← Option.some.inj he]
    exact gLk_in hl
end GAC
section NW
variable {Γ : gT} {cc : ByteArray} {Ts : List Cond} {own : String} {cl sl pc : Nat} {L : List (Nat × Value)} {st : List Value} {ws : va_W}
theorem g_nw (K : gOK Γ cc Ts own) (k : (∀ e ∈ ws, gN (g_E Γ) e.1) → gGO Γ cl sl pc L st ws) : gGO Γ cl sl pc L st ws := fun H locs ls hP hD hS h => k (fun e he => by
  obtain ⟨i, hi⟩ := List.mem_iff_getElem?.mp he
  exact K.an _ (hD.2 i e hi)) H locs ls hP hD hS h
end NW
theorem u_774 : Cond.methodLink RX11 181 yX1_gradeTeam ∈ gU := gu_in (List.mem_of_getElem? (i := 774) (by decide +kernel)) rfl
set_option maxHeartbeats 4000000 in
set_option maxRecDepth 100000 in
theorem wX11_asked_30 {Γ : gT} {q : Nat → Nat} {r : Nat → Nat → Nat} {F : gF} {o0 : Nat → Int32} {A0 : Nat → Nat → Int32} {C0 : Nat → Option Nat} {h0 : Nat} {o1 : Nat → Int32} {A1 : Nat → Nat → Int32} {C1 : Nat → Option Nat} {h1 : Nat} {o2 : Nat → Int32} {A2 : Nat → Nat → Int32} {C2 : Nat → Option Nat} {h2 : Nat} {tb0 : Int32} {tA0 bf0 : Nat → Int32} {hi0 : Int32} {s : Nat → Int32} {W C y Hn R T : Nat} (K : gOK Γ cX11_asked gU RX11) (hlt : ∀ i, i < 6 → i < g_n Γ) (hRm : g_R Γ = ({ frames := 9, cells := 10, slots := 40, locals := 330 } : Room)) (hF : gFz (g_E Γ) F) (hS : SV s W C y Hn R T) (hR : WR F o0 A0 C0 h0 s) {c v n b : Nat} (hc : c < C) (hb : CH F b s c) (hv : s (64 + c) = nI v) (hv9 : v ≤ 9) (hn50 : n ≤ 50) {x1 : Int32} (hret : ∀ (pc : Nat) (L : List (Nat × Value)) (z : Int32) (w : va_W), decode cX11_asked pc = .ok (.ireturn, 1) → narrow .int (.int z) = .int z → (z = aV s W c v n (10 - v) 0 ∧ ∃ gs0 gA, w = cw (g_E Γ) q r (gpl F) o0 A0 C0 h0 o1 A1 C1 h1 o2 A2 C2 h2 gs0 gA tb0 tA0 bf0 hi0) → gGO Γ 10 40 pc L [.int z] w) : ∀ (k d : Nat) (gs0 : Int32) (gA : Nat → Nat → Int32), d + k = 10 - v → aV s W c v n (10 - v) 0 = aV s W c v n k d → gGO Γ d (4 * d) 30 [(0, .ref (q 5)), (2, .int (nI n)), (3, .ref b), (4, .int (nI d))] [] (cw (g_E Γ) q r (gpl F) o0 A0 C0 h0 o1 A1 C1 h1 o2 A2 C2 h2 gs0 gA tb0 tA0 bf0 hi0) := by
  have hch : ∀ w ∈ gChW, w ∈ gU := hch
  obtain ⟨hbv, hbk, hbn, hbw, hbd⟩ := id hb
  have h4 : C ≤ 4 := hS.1.2.2.2.1
  have hcv : cv F b = nI v := hbw.trans hv
  obtain ⟨kk, vv, dd, hkk, -, -, hK1, -, -⟩ := hS.1.2.2.2.2.2.2.2 c hc
  have hkk2 : ck F b = nI kk := hbk.trans hK1
  intro k
  induction k with
  | zero =>
    intro d gs0 gA e he
    refine g_iload K dX11_asked_30 3 rfl ?_
    refine g_bipush (v := 9) K dX11_asked_32 (by decide) ?_
    refine g_aload_n K dX11_asked_34 rfl 2 rfl ?_
    refine chg_2 K hF hbv hch u_272 dX11_asked_35 ?_
    rw [hcv]
    refine g_isub K dX11_asked_38 ?_
    rw [show (9 : Int32) = nI 9 from rfl, n_sub (by omega)]
    refine g_icmp_gt (tgt := 92) K dX11_asked_39 (by decide) (fun qh => ?_) (fun qh => ?_)
    · refine g_bipush (v := (-5)) K dX11_asked_92 (by decide) ?_
      exact g_wid (c2 := 10) (s2 := 40) (by omega) (by omega) (hret _ _ _ _ dX11_asked_94 rfl ⟨he.symm ▸ rfl, gs0, gA, rfl⟩)
    · exact absurd (show nI (9 - v) < nI d by rw [n_lt (by omega) (by omega)]; omega) qh
  | succ k ih =>
    intro d gs0 gA e he
    refine g_iload K dX11_asked_30 3 rfl ?_
    refine g_bipush (v := 9) K dX11_asked_32 (by decide) ?_
    refine g_aload_n K dX11_asked_34 rfl 2 rfl ?_
    refine chg_2 K hF hbv hch u_272 dX11_asked_35 ?_
    rw [hcv]
    refine g_isub K dX11_asked_38 ?_
    rw [show (9 : Int32) = nI 9 from rfl, n_sub (by omega)]
    refine g_icmp_gt (tgt := 92) K dX11_asked_39 (by decide) (fun qh => ?_) (fun qh => ?_)
    · exact absurd qh (show ¬ nI (9 - v) < nI d by rw [n_lt (by omega) (by omega)]; omega)
    clear qh
    refine g_aload_n K dX11_asked_42 rfl 2 rfl ?_
    refine chg_0 K hF hbv hch u_257 dX11_asked_43 ?_
    refine g_aload_n K dX11_asked_46 rfl 2 rfl ?_
    refine chg_1 K hF hbv hch u_262 dX11_asked_47 ?_
    refine g_aload_n K dX11_asked_50 rfl 2 rfl ?_
    refine chg_2 K hF hbv hch u_272 dX11_asked_51 ?_
    refine g_iload K dX11_asked_54 3 rfl ?_
    refine g_iadd K dX11_asked_56 ?_
    refine g_aload_n K dX11_asked_57 rfl 2 rfl ?_
    refine chg_3 K hF hbv hch u_276 dX11_asked_58 ?_
    rw [hcv, nI_add]
    rw [hkk2]
    refine g_callSq (As := [.int (nI kk), .int (cn F b), .int (nI (v + d)), .int (cd F b)]) (bytes := cX0_make) (maxL := 4) (ret := (some (.object "ChiefGrades$Chief"))) K (ctX0_make (ws := cw (g_E Γ) q r (gpl F) o0 A0 C0 h0 o1 A1 C1 h1 o2 A2 C2 h2 gs0 gA tb0 tA0 bf0 hi0) (by omega) (cn F b) (nI (v + d)) (cd F b)) (gu_S u_521 u_522 u_73 u_523) rfl qs_X0_make hRm rfl rfl rfl ⟨Nat.le_of_ble_eq_true rfl, Nat.le_of_ble_eq_true rfl⟩ (Nat.le_of_ble_eq_true rfl) ⟨by show d + 1 ≤ 10; omega, by show 4 * d + 4 ≤ 40; omega⟩ dX11_asked_61 (fun v w hw => ?_)
    obtain ⟨B, rfl, rfl⟩ := hw
    refine g_astore K dX11_asked_64 (hlt 5 (by decide)) rfl ?_
    refine g_aload_n K dX11_asked_66 rfl 1 rfl ?_
    refine g_get (v := .ref (q 3)) (T := TX11) (ref := "ChiefGrades") K hin_X11 1 rfl rfl 3 (by decide) u_327 (Or.inl rfl) rfl dX11_asked_67 ?_
    refine g_aload_n K dX11_asked_70 rfl 1 rfl ?_
    refine g_get (v := .ref (q 0)) (T := TX11) (ref := "ChiefGrades") K hin_X11 1 rfl rfl 0 (by decide) u_324 (Or.inl rfl) rfl dX11_asked_71 ?_
    refine g_aload K dX11_asked_74 0 rfl ?_
    refine g_comm (a := [(B, .inr (gKc.getD kk 0, [.int (nI kk), .int (cn F b), .int (nI (v + d)), .int (cd F b)]))]) (b := cw (g_E Γ) q r (gpl F) o0 A0 C0 h0 o1 A1 C1 h1 o2 A2 C2 h2 gs0 gA tb0 tA0 bf0 hi0) ?_
    refine g_ws (ws' := cw (g_E Γ) q r (gpl F) o0 A0 C0 h0 o1 A1 C1 h1 o2 A2 C2 h2 gs0 gA tb0 tA0 bf0 hi0 ++ ([(B, .inr (gKc.getD kk 0, [.int (nI kk), .int (cn F b), .int (nI (v + d)), .int (cd F b)]))] ++ [])) rfl ?_
    refine g_nw K (fun hnw => ?_)
    have hBN : gN (g_E Γ) B := hnw (B, .inr (gKc.getD kk 0, [.int (nI kk), .int (cn F b), .int (nI (v + d)), .int (cd F b)])) (List.mem_append_right _ (by exact List.mem_cons_self))
    have hX1 : ∀ a e, gfz (g_E Γ) a = some e → ¬ gN (g_E Γ) a := fun a e z => (K.X.1 a e z).2
    have hBc : ¬ chv F B = true := fun z => by obtain ⟨j, -, -, z3⟩ := hF.1 B z; exact hX1 _ _ z3 hBN
    have hF2 : gFz (gExt (g_E Γ) [(B, .inr (gKc.getD kk 0, [.int (nI kk), .int (cn F b), .int (nI (v + d)), .int (cd F b)]))]) (gAC F B (nI kk) (cn F b) (nI (v + d)) (cd F b)) := gAC_fz (j := kk) (by omega) rfl (gFz_ext (fun e z => by have z2 := List.mem_singleton.mp z; subst z2; exact hBN) hX1 hF) (gExt_at (fun p hp q hq _ => (List.mem_singleton.mp hp).trans (List.mem_singleton.mp hq).symm) (List.mem_singleton.mpr rfl))
    have hFE : FE F (gAC F B (nI kk) (cn F b) (nI (v + d)) (cd F b)) := gAC_fe hBc
    obtain ⟨a1, a2, a3, a4, a5⟩ := gAC_at (F := F) (B := B) (k := nI kk) (n := cn F b) (v := nI (v + d)) (d := cd F b)
    obtain ⟨rr, hz⟩ := c_ask (gs := gs0) (g0 := gA 0) (g1 := gA 1) (g2 := gA 2) (g3 := gA 3) (g5 := gA 5) hS (fe_wr hFE hR) hc (show v + d ≤ 9 by omega) (B := B) ⟨a1, a2.trans (hK1.symm.trans (ra_n (by omega)).symm), a3.trans hbn, a4.trans (by unfold ra; exact pk_us.symm), a5.trans (hbd.trans (ra_n (by omega)).symm)⟩
    have hM : gMi yX1_gradeTeam (.code yX1_gradeTeam cX1_gradeTeam 3 (some .int) :: gU) ({ frames := 8, cells := 0, slots := 0, locals := 238 } : Room) 0 0 (gExt (g_E Γ) [(B, .inr (gKc.getD kk 0, [.int (nI kk), .int (cn F b), .int (nI (v + d)), .int (cd F b)]))]) [.ref (q 3), .ref (q 0), .ref B] (cw (g_E Γ) q r (gpl F) o0 A0 C0 h0 o1 A1 C1 h1 o2 A2 C2 h2 gs0 gA tb0 tA0 bf0 hi0) (fun z w => z = aS s W c (v + d) ∧ w = cw (g_E Γ) q r (gpl F) o0 A0 C0 h0 o1 A1 C1 h1 o2 A2 C2 h2 rr.1 (gu (gu (gu (gu (gu gA 0 rr.2.1) 1 rr.2.2.1) 2 rr.2.2.2.1) 3 rr.2.2.2.2.1) 5 rr.2.2.2.2.2) tb0 tA0 bf0 hi0) := ctX1_gradeTeam_w0 hF2 o0 A0 C0 h0 o1 A1 C1 h1 o2 A2 C2 h2 gs0 gA tb0 tA0 bf0 hi0 B (res := (aS s W c (v + d), rr)) hz
    refine g_cutVi (As := [.ref (q 0), .ref B]) (bytes := cX1_gradeTeam) (maxL := 3) (ret := (some .int)) K [(B, .inr (gKc.getD kk 0, [.int (nI kk), .int (cn F b), .int (nI (v + d)), .int (cd F b)]))] [] hM 4 rfl rfl rfl (gu_V u_774 u_671 u_672 u_72 u_673) rfl qv_X1_gradeTeam hRm rfl rfl rfl (by decide) (Nat.le_of_ble_eq_true rfl) ⟨by show d + 1 + 0 ≤ 10; omega, by show 4 * d + 4 + 0 ≤ 40; omega⟩ dX11_asked_76 (fun z w hw => ?_)
    obtain ⟨rfl, rfl⟩ := hw
    refine g_comm (a := cw (g_E Γ) q r (gpl F) o0 A0 C0 h0 o1 A1 C1 h1 o2 A2 C2 h2 rr.1 (gu (gu (gu (gu (gu gA 0 rr.2.1) 1 rr.2.2.1) 2 rr.2.2.2.1) 3 rr.2.2.2.2.1) 5 rr.2.2.2.2.2) tb0 tA0 bf0 hi0) (b := [(B, .inr (gKc.getD kk 0, [.int (nI kk), .int (cn F b), .int (nI (v + d)), .int (cd F b)]))] ++ []) ?_
    refine g_perm [(B, .inr (gKc.getD kk 0, [.int (nI kk), .int (cn F b), .int (nI (v + d)), .int (cd F b)]))] [] [] rfl rfl ?_
    refine g_ws (ws' := cw (g_E Γ) q r (gpl F) o0 A0 C0 h0 o1 A1 C1 h1 o2 A2 C2 h2 rr.1 (gu (gu (gu (gu (gu gA 0 rr.2.1) 1 rr.2.2.1) 2 rr.2.2.2.1) 3 rr.2.2.2.2.1) 5 rr.2.2.2.2.2) tb0 tA0 bf0 hi0) rfl ?_
    refine g_iload_n K dX11_asked_79 rfl 2 rfl ?_
    refine g_icmp_lt (tgt := 86) K dX11_asked_80 (by decide) (fun qh => ?_) (fun qh => ?_)
    · have z2 := ih (d + 1) rr.1 (gu (gu (gu (gu (gu gA 0 rr.2.1) 1 rr.2.2.1) 2 rr.2.2.2.1) 3 rr.2.2.2.2.1) 5 rr.2.2.2.2.2) (by omega) (by rw [he, aV, if_pos qh])
      refine g_iinc (v := nI (d + 1)) K dX11_asked_86 4 rfl (n_a1 (a := d)) (hlt 4 (by decide)) rfl ?_
      refine g_goto (tgt := 30) K dX11_asked_89 (by decide) ?_
      refine g_sub (L' := [(0, .ref (q 5)), (2, .int (nI n)), (3, .ref b), (4, .int (nI (d + 1)))]) [2, 3, 4, 0] rfl ?_
      exact g_wid (c2 := d + 1) (s2 := 4 * (d + 1)) (by omega) (by omega) z2
    · have hz9 : aV s W c v n (10 - v) 0 = nI d := by rw [he, aV, if_neg qh]
      refine g_iload K dX11_asked_83 4 rfl ?_
      exact g_wid (c2 := 10) (s2 := 40) (by omega) (by omega) (hret _ _ _ _ dX11_asked_85 rfl ⟨hz9.symm, rr.1, (gu (gu (gu (gu (gu gA 0 rr.2.1) 1 rr.2.2.1) 2 rr.2.2.2.1) 3 rr.2.2.2.2.1) 5 rr.2.2.2.2.2), rfl⟩)
set_option maxHeartbeats 4000000 in
set_option maxRecDepth 100000 in
theorem ctX11_asked {E : gE} {q : Nat → Nat} {r : Nat → Nat → Nat} {F : gF} (hF : gFz E F) (o0 : Nat → Int32) (A0 : Nat → Nat → Int32) (C0 : Nat → Option Nat) (h0 : Nat) (o1 : Nat → Int32) (A1 : Nat → Nat → Int32) (C1 : Nat → Option Nat) (h1 : Nat) (o2 : Nat → Int32) (A2 : Nat → Nat → Int32) (C2 : Nat → Option Nat) (h2 : Nat) (gs0 : Int32) (gA : Nat → Nat → Int32) (tb0 : Int32) (tA0 bf0 : Nat → Int32) (hi0 : Int32) {s : Nat → Int32} {W C y Hn R T : Nat} (hS : SV s W C y Hn R T) (hR : WR F o0 A0 C0 h0 s) (a10 a11 a12 a13 a15 : Nat → Int32) (x1 x2 : Int32) : gMi yX11_asked (.code yX11_asked cX11_asked 6 (some .int) :: gU) ({ frames := 9, cells := 10, slots := 40, locals := 330 } : Room) 10 40 E [.ref (q 5), .int x1, .int x2] (cw E q r (gpl F) o0 A0 C0 h0 o1 A1 C1 h1 o2 A2 C2 h2 gs0 gA tb0 tA0 bf0 hi0) (fun v w => (∃ r', pX12_asked s a10 a11 a12 a13 a15 x1 x2 = some (v, s, r')) ∧ ∃ gs0 gA, w = cw E q r (gpl F) o0 A0 C0 h0 o1 A1 C1 h1 o2 A2 C2 h2 gs0 gA tb0 tA0 bf0 hi0) := by
  refine g_met_i (by decide +kernel) (Nat.le_of_ble_eq_true rfl) (fun Γ K hn hE hRm _ hret => ?_)
  subst hE
  have hlt : ∀ i, i < 6 → i < g_n Γ := fun i q => by rw [hn]; exact q
  have hI := hS.1
  obtain ⟨hW, h10, hC, h4, hy, hy2, hV, hK⟩ := id hI
  obtain ⟨e0, e1, -⟩ := wr_o hS hR
  refine g_sub (L' := [(0, .ref (q 5)), (1, .int x1), (2, .int x2)]) [0, 1, 2] rfl ?_
  rcases x_lt x1 (n := C) (by omega) with ⟨c, hc, rfl⟩ | hx1
  · obtain ⟨b, hb, hch2⟩ := wr_cfs hS hR c hc
    have z3 : pX10_chiefAt_w0 (o0 1) C0 (nI c) = some (some b) := by rw [e1]; exact c_chief h4 hc hb
    refine g_aload_n K dX11_asked_0 rfl 0 rfl ?_
    refine g_get (v := .ref (q 0)) (T := TX11) (ref := "ChiefGrades") K hin_X11 0 rfl rfl 0 (by decide) u_324 (Or.inl rfl) rfl dX11_asked_1 ?_
    refine g_iload_n K dX11_asked_4 rfl 1 rfl ?_
    refine g_callVq (As := [.int (nI c)]) (bytes := cX10_chiefAt) (maxL := 2) (ret := (some (.object "ChiefGrades$Chief"))) K (ctX10_chiefAt_w0 hF o0 A0 C0 h0 o1 A1 C1 h1 o2 A2 C2 h2 gs0 gA tb0 tA0 bf0 hi0 (nI c) (res := some b) z3) gc_V_RX11_101_X10_chiefAt rfl qv_X10_chiefAt 1 rfl rfl rfl hRm rfl rfl rfl (by decide) (Nat.le_of_ble_eq_true rfl) (by decide) dX11_asked_5 (fun v w hw => ?_)
    obtain ⟨rfl, rfl⟩ := hw
    refine g_astore_n (x := b) K dX11_asked_8 rfl (hlt 3 (by decide)) rfl ?_
    refine g_aload_n K dX11_asked_9 rfl 0 rfl ?_
    refine g_ifnonnull (tgt := 15) K dX11_asked_10 (by decide) ?_
    refine g_iload_n K dX11_asked_15 rfl 3 rfl ?_
    refine g_bipush (v := 50) K dX11_asked_16 (by decide) ?_
    rcases x_in x2 (n := 50) (by decide) with ⟨n, hn50, rfl⟩ | hx2
    · have u2 : pX11_isWithin (nI n) 50 = some (nI 1) := wi_nT hn50 (by decide)
      refine g_callSi (As := [.int (nI n), .int 50]) (bytes := cX11_isWithin) (maxL := 2) (ret := (some .boolean)) K (ctX11_isWithin (ws := cw (g_E Γ) q r (gpl F) o0 A0 C0 h0 o1 A1 C1 h1 o2 A2 C2 h2 gs0 gA tb0 tA0 bf0 hi0) (nI n) 50 (res := (nI 1)) u2) gc_S_RX11_84_X11_isWithin rfl qs_X11_isWithin hRm rfl rfl rfl (by decide) (Nat.le_of_ble_eq_true rfl) (by decide) dX11_asked_18 (fun v w hw => ?_)
      obtain ⟨hv9, rfl⟩ := hw; have hv9 := hv9.symm; subst hv9
      refine g_if_ne (tgt := 27) K dX11_asked_21 (by decide) (fun qh => ?_) (fun qh => absurd qh (by decide))
      refine g_iconst (v := 0) K dX11_asked_27 (by decide) ?_
      refine g_istore K dX11_asked_28 (hlt 4 (by decide)) rfl ?_
      refine g_sub (L' := [(0, .ref (q 5)), (2, .int (nI n)), (3, .ref b), (4, .int (nI 0))]) [2, 4, 1, 0] rfl ?_
      obtain ⟨k9, v, d9, -, hv9, -, -, hv, -⟩ := hK c hc
      refine wX11_asked_30 (x1 := 0) K hlt hRm hF hS hR hc hch2 hv hv9 hn50 (fun pc L z w hd hnar hp => hret pc L z w hd hnar ⟨?_, hp.2⟩) (10 - v) 0 gs0 gA (by omega) rfl
      obtain ⟨r', hr'⟩ := r_asked hS (wr_hr hR) (cfs_chs (wr_cfs hS hR)) hc hv hv9 hn50 a10 a11 a12 a13 a15
      exact ⟨r', by rw [hr', hp.1]⟩
    · have u2 : pX11_isWithin x2 50 = some (nI 0) := wi_f hx2
      refine g_callSi (As := [.int x2, .int 50]) (bytes := cX11_isWithin) (maxL := 2) (ret := (some .boolean)) K (ctX11_isWithin (ws := cw (g_E Γ) q r (gpl F) o0 A0 C0 h0 o1 A1 C1 h1 o2 A2 C2 h2 gs0 gA tb0 tA0 bf0 hi0) x2 50 (res := (nI 0)) u2) gc_S_RX11_84_X11_isWithin rfl qs_X11_isWithin hRm rfl rfl rfl (by decide) (Nat.le_of_ble_eq_true rfl) (by decide) dX11_asked_18 (fun v w hw => ?_)
      obtain ⟨hv9, rfl⟩ := hw; have hv9 := hv9.symm; subst hv9
      refine g_if_ne (tgt := 27) K dX11_asked_21 (by decide) (fun qh => absurd (by decide) qh) (fun qh => ?_)
      refine g_bipush (v := (-2)) K dX11_asked_24 (by decide) ?_
      have z4 := isc_t hC h4 hc
      have u1 : pX12_in x2 (nI 0) (nI 50) = some (nI 0) := in_f hx2
      refine g_wid (c2 := 10) (s2 := 40) (Nat.zero_le _) (Nat.zero_le _) (hret _ _ _ _ dX11_asked_26 rfl ⟨⟨(a10, a11, a12, a13, a15), ?_⟩, gs0, gA, rfl⟩)
      unfold pX12_asked
      simp (disch := omega) only [n_lit, nI_add, nI_1, n_cl, gck_in, gck_t, gck_T, ↓gnm_e, gbd_s, ↓reduceIte, n_leT, n_leF, n_ltT, n_ltF, n_eqT, n_eqF, Nat.add_zero, Nat.zero_add, z4, u1]
  · have z3 : pX10_chiefAt_w0 (o0 1) C0 x1 = some none := by rw [e1]; exact cat_f hx1
    refine g_aload_n K dX11_asked_0 rfl 0 rfl ?_
    refine g_get (v := .ref (q 0)) (T := TX11) (ref := "ChiefGrades") K hin_X11 0 rfl rfl 0 (by decide) u_324 (Or.inl rfl) rfl dX11_asked_1 ?_
    refine g_iload_n K dX11_asked_4 rfl 1 rfl ?_
    refine g_callVq (As := [.int x1]) (bytes := cX10_chiefAt) (maxL := 2) (ret := (some (.object "ChiefGrades$Chief"))) K (ctX10_chiefAt_w0 hF o0 A0 C0 h0 o1 A1 C1 h1 o2 A2 C2 h2 gs0 gA tb0 tA0 bf0 hi0 x1 (res := none) z3) gc_V_RX11_101_X10_chiefAt rfl qv_X10_chiefAt 1 rfl rfl rfl hRm rfl rfl rfl (by decide) (Nat.le_of_ble_eq_true rfl) (by decide) dX11_asked_5 (fun v w hw => ?_)
    obtain ⟨rfl, rfl⟩ := hw
    refine g_astore_nN K dX11_asked_8 rfl (hlt 3 (by decide)) rfl ?_
    refine g_aload_nN K dX11_asked_9 rfl 0 rfl ?_
    refine g_ifnonnullN K dX11_asked_10 ?_
    refine g_iconst (v := (-1)) K dX11_asked_13 (by decide) ?_
    have z4 := isc_f hC h4 hx1
    refine g_wid (c2 := 10) (s2 := 40) (Nat.zero_le _) (Nat.zero_le _) (hret _ _ _ _ dX11_asked_14 rfl ⟨⟨(a10, a11, a12, a13, a15), ?_⟩, gs0, gA, rfl⟩)
    unfold pX12_asked
    simp (disch := omega) only [n_lit, nI_add, nI_1, n_cl, gck_in, gck_t, gck_T, ↓gnm_e, gbd_s, ↓reduceIte, n_leT, n_leF, n_ltT, n_ltF, n_eqT, n_eqF, Nat.add_zero, Nat.zero_add, z4]
