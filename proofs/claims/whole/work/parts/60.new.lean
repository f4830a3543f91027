/-! MAKING: new cells, cells cut out for a call and put back, more frozen cells -/
section APP
variable {D : va_G} {cl : List vw_C} {a b : va_W} {H : Heap} {A : Nat → Prop}
theorem va_ix_l {i : Nat} {q : Nat × va_E} (h : a[i]? = some q) : (a ++ b)[i]? = some q := by rw [List.getElem?_append_left (List.getElem?_eq_some_iff.mp h).1]; exact h
theorem va_ix_r {i : Nat} {q : Nat × va_E} (h : b[i]? = some q) : (a ++ b)[a.length + i]? = some q := by rw [List.getElem?_append_right (Nat.le_add_right _ _), Nat.add_sub_cancel_left]; exact h
theorem va_P_l (h : va_P D cl (a ++ b) H) : va_P D cl a H := fun k q hk => h k q (va_ix_l hk)
theorem va_P_r (h : va_P D cl (a ++ b) H) : va_P D cl b H := fun k q hk => h (a.length + k) q (va_ix_r hk)
theorem va_D_l (h : va_D A (a ++ b)) : va_D A a := ⟨fun i j p q hp hq hpq => h.1 i j p q (va_ix_l hp) (va_ix_l hq) hpq, fun k q hk => h.2 k q (va_ix_l hk)⟩
theorem va_D_r (h : va_D A (a ++ b)) : va_D A b := ⟨fun i j p q hp hq hpq => Nat.add_left_cancel (h.1 _ _ p q (va_ix_r hp) (va_ix_r hq) hpq), fun k q hk => h.2 _ q (va_ix_r hk)⟩
theorem va_D_x (h : va_D A (a ++ b)) : ∀ (i j : Nat) (p q : Nat × va_E), a[i]? = some p → b[j]? = some q → p.1 ≠ q.1 := fun i j p q hp hq hpq => by
  have hl := (List.getElem?_eq_some_iff.mp hp).1
  have := h.1 i (a.length + j) p q (va_ix_l hp) (va_ix_r hq) hpq
  omega
theorem va_P_c (h : va_P D cl (a ++ b) H) : va_P D cl (b ++ a) H := va_P.app (va_P_r h) (va_P_l h)
theorem va_D_c (h : va_D A (a ++ b)) : va_D A (b ++ a) := va_D.app (va_D_r h) (va_D_l h) (fun i j p q hp hq e => va_D_x h j i q p hq hp e.symm)
theorem va_pick {p1 p2 : va_W} {is : List Nat} (hs : is.map (fun i => p1[i]?) = p2.map some) {k : Nat} {q : Nat × va_E} (hq : p2[k]? = some q) : ∃ i : Nat, p1[i]? = some q := by
  have h1 : (is.map (fun i => p1[i]?))[k]? = some (some q) := by rw [hs, List.getElem?_map, hq]; rfl
  rw [List.getElem?_map] at h1
  cases hi : is[k]? with
  | none => rw [hi] at h1; cases h1
  | some i => rw [hi] at h1; exact ⟨i, Option.some.inj h1⟩
/-- addresses apart -/
def gDs (fl : va_W) : Prop := ∀ p ∈ fl, ∀ q ∈ fl, p.1 = q.1 → p = q
theorem gDs_of {ws : va_W} (h : va_D A ws) : gDs ws := fun p hp q hq e => by
  obtain ⟨i, hi⟩ := List.mem_iff_getElem?.mp hp
  obtain ⟨j, hj⟩ := List.mem_iff_getElem?.mp hq
  have := h.1 i j p q hi hj e
  subst this
  exact Option.some.inj (hi.symm.trans hj)
def gLk : va_W → Nat → Option va_E
  | [], _ => none
  | q :: l, x => if q.1 = x then some q.2 else gLk l x
theorem gLk_in : ∀ {fl : va_W} {x : Nat} {e : va_E}, gLk fl x = some e → (x, e) ∈ fl
  | [], _, _, h => by cases h
  | q :: l, x, e, h => by
    unfold gLk at h
    by_cases z : q.1 = x
    · rw [if_pos z] at h
      have e2 := Option.some.inj h
      subst z; subst e2
      exact List.mem_cons_self
    · rw [if_neg z] at h
      exact List.mem_cons_of_mem _ (gLk_in h)
theorem gLk_of : ∀ {fl : va_W} {x : Nat} {e : va_E}, gDs fl → (x, e) ∈ fl → gLk fl x = some e
  | [], _, _, _, h => by cases h
  | q :: l, x, e, hd, h => by
    unfold gLk
    by_cases z : q.1 = x
    · rw [if_pos z, hd q List.mem_cons_self (x, e) h z]
    · rw [if_neg z]
      refine gLk_of (fun p hp q hq => hd p (List.mem_cons_of_mem _ hp) q (List.mem_cons_of_mem _ hq)) ?_
      rcases List.mem_cons.mp h with h | h
      · exact absurd (by rw [← h]) z
      · exact h
def gExt (E : gE) (fl : va_W) : gE := (E.1, E.2.1, (fun x => match gLk fl x with | some e => some e | none => gfz E x), (fun q => gN E q ∧ ∀ e ∈ fl, e.1 ≠ q), E.2.2.2.2.1, E.2.2.2.2.2)
theorem gExt_at {E : gE} {fl : va_W} {x : Nat} {e : va_E} (hd : gDs fl) (h : (x, e) ∈ fl) : gfz (gExt E fl) x = some e := by
  show (match gLk fl x with | some e => some e | none => gfz E x) = some e
  rw [gLk_of hd h]
theorem gX_ext {E : gE} {fl : va_W} {U : State} (h : gX E U) (hP : va_P (gD E) vwCl fl U.heap) : gX (gExt E fl) U := by
  obtain ⟨hF, hK, h1, h2, h3, h4, h5, h6⟩ := h
  refine ⟨fun x e he => ?_, hK, h1.narrow (fun q z => z.1), h2.narrow (fun q z => z.1), h3.narrow (fun q z => z.1), h4, h5, h6⟩
  have he : (match gLk fl x with | some e => some e | none => gfz E x) = some e := he
  cases hl : gLk fl x with
  | some e' =>
    rw [hl] at he
    have he := Option.some.inj he
    subst he
    obtain ⟨k, hk⟩ := List.mem_iff_getElem?.mp (gLk_in hl)
    exact ⟨hP k (x, e') hk, fun z => z.2 _ (gLk_in hl) rfl⟩
  | none =>
    rw [hl] at he
    exact ⟨(hF x e he).1, fun z => (hF x e he).2 z.1⟩
end APP
section NEW
variable {Γ : gT} {cc : ByteArray} {Ts : List Cond} {own : String} {cl sl pc index : Nat} {L : List (Nat × Value)} {st : List Value} {ws : va_W} {R0 : Room}
theorem g_comm {a b : va_W} (k : gGO Γ cl sl pc L st (b ++ a)) : gGO Γ cl sl pc L st (a ++ b) := fun H locs ls hP hD hS h => k H locs ls (va_P_c hP) (va_D_c hD) hS h
theorem g_perm (p1 p2 : va_W) (is : List Nat) (hn : va_nd is = true) (hs : is.map (fun i => p1[i]?) = p2.map some) (k : gGO Γ cl sl pc L st (p2 ++ ws)) : gGO Γ cl sl pc L st (p1 ++ ws) := fun H locs ls hP hD hS h => by
  refine k H locs ls (va_P.app (fun k q hk => ?_) (va_P_r hP)) (va_D.app ((va_D_l hD).sub is hn hs) (va_D_r hD) (fun i j p q hp hq => ?_)) hS h
  · obtain ⟨i, hi⟩ := va_pick hs hk
    exact va_P_l hP i q hi
  · obtain ⟨i', hi⟩ := va_pick hs hp
    exact va_D_x hD i' j p q hi hq
theorem g_ds (k : gDs ws → gGO Γ cl sl pc L st ws) : gGO Γ cl sl pc L st ws := fun H locs ls hP hD hS h => k (gDs_of hD) H locs ls hP hD hS h
theorem g_new {C : String} {T : u_T} {N ci : Nat} {fs : List Value} {ty0 : Nat → FieldType} (K : gOK Γ cc Ts own) (hin : ∀ w ∈ u_ws C T N, w ∈ Ts) (hty : ∀ k, k < N → parseFieldDescriptor (T k).2.2.1 = some (ty0 k)) (hcl : Cond.classLink own index C ∈ Ts) (hinst : Cond.instantiable C N ∈ Ts) (hini : Cond.initialized C ∈ Ts) (hc : vwCl[ci]? = some (C, T, N)) (hfs : ∀ j, j < N → defaultValue (ty0 j) = vp_V fs j) (hRm : g_R Γ = R0) (hf0 : cl + 1 ≤ R0.cells ∧ sl + N ≤ R0.slots) (hd : decode cc pc = .ok (.new index, 3)) (kk : ∀ q : Nat, gGO Γ (cl + 1) (sl + N) (pc + 3) L (.ref q :: st) ((q, .inr (ci, fs)) :: ws)) : gGO Γ cl sl pc L st ws := fun H locs ls hP hD hS h =>
  va_new K.x K.b K.t hin ty0 hty K.o (K.t _ hcl) (K.t _ hinst) (K.t _ hini) K.K hP hD hS K.a hc hfs (by rw [hRm]; exact hf0.1) (by rw [hRm]; exact hf0.2) hd (fun q H1 hP hD hS => kk q H1 locs ls (va_P_c hP) (va_D_c hD) hS h)
theorem g_newaI {n : Int32} {N' : Nat} (K : gOK Γ cc Ts own) (harr : Cond.arrayClass .int ∈ Ts) (hn : ¬ n < 0) (hN : n.toNatClampNeg = N') (hbytes : N' * 4 ≤ 536870912) (hRm : g_R Γ = R0) (hf0 : cl + 1 ≤ R0.cells ∧ sl + N' ≤ R0.slots) (hd : decode cc pc = .ok (.newarray .int, 2)) (kk : ∀ q : Nat, gGO Γ (cl + 1) (sl + N') (pc + 2) L (.ref q :: st) ((q, .inl (gI (g_E Γ), N', .inl (fun _ => 0))) :: ws)) : gGO Γ cl sl pc L (.int n :: st) ws := fun H locs ls hP hD hS h =>
  va_newa (atype := .int) (ty := .int) (a0 := (N', .inl (fun _ => 0))) K.x K.b (K.t _ harr) rfl K.K hP hD hS K.a (fun _ => rfl) hn hN hbytes (by rw [hRm]; exact hf0.1) (by rw [hRm]; exact hf0.2) hd (fun q cA H1 hK hP hD hS => by
    have e1 := (hK.2 4 (cA, .int) rfl).2
    have e2 := (K.K.2 0 (gI (g_E Γ), .int) rfl).2
    have e : cA = gI (g_E Γ) := Option.some.inj (e1.symm.trans e2)
    subst e
    exact kk q H1 locs ls (va_P_c hP) (va_D_c hD) hS h)
theorem g_newaC {n : Int32} {N' : Nat} (K : gOK Γ cc Ts own) (harr : Cond.arrayClass .char ∈ Ts) (hn : ¬ n < 0) (hN : n.toNatClampNeg = N') (hbytes : N' * 2 ≤ 536870912) (hRm : g_R Γ = R0) (hf0 : cl + 1 ≤ R0.cells ∧ sl + N' ≤ R0.slots) (hd : decode cc pc = .ok (.newarray .char, 2)) (kk : ∀ q : Nat, gGO Γ (cl + 1) (sl + N') (pc + 2) L (.ref q :: st) ((q, .inl (gCh (g_E Γ), N', .inl (fun _ => 0))) :: ws)) : gGO Γ cl sl pc L (.int n :: st) ws := fun H locs ls hP hD hS h =>
  va_newa (atype := .char) (ty := .char) (a0 := (N', .inl (fun _ => 0))) K.x K.b (K.t _ harr) rfl K.K hP hD hS K.a (fun _ => rfl) hn hN hbytes (by rw [hRm]; exact hf0.1) (by rw [hRm]; exact hf0.2) hd (fun q cA H1 hK hP hD hS => by
    have e1 := (hK.2 4 (cA, .char) rfl).2
    have e2 := (K.K.2 1 (gCh (g_E Γ), .char) rfl).2
    have e : cA = gCh (g_E Γ) := Option.some.inj (e1.symm.trans e2)
    subst e
    exact kk q H1 locs ls (va_P_c hP) (va_D_c hD) hS h)
theorem g_newaZ {n : Int32} {N' : Nat} (K : gOK Γ cc Ts own) (harr : Cond.arrayClass .boolean ∈ Ts) (hn : ¬ n < 0) (hN : n.toNatClampNeg = N') (hbytes : N' * 1 ≤ 536870912) (hRm : g_R Γ = R0) (hf0 : cl + 1 ≤ R0.cells ∧ sl + N' ≤ R0.slots) (hd : decode cc pc = .ok (.newarray .boolean, 2)) (kk : ∀ q : Nat, gGO Γ (cl + 1) (sl + N') (pc + 2) L (.ref q :: st) ((q, .inl (gZ (g_E Γ), N', .inl (fun _ => 0))) :: ws)) : gGO Γ cl sl pc L (.int n :: st) ws := fun H locs ls hP hD hS h =>
  va_newa (atype := .boolean) (ty := .boolean) (a0 := (N', .inl (fun _ => 0))) K.x K.b (K.t _ harr) rfl K.K hP hD hS K.a (fun _ => rfl) hn hN hbytes (by rw [hRm]; exact hf0.1) (by rw [hRm]; exact hf0.2) hd (fun q cA H1 hK hP hD hS => by
    have e1 := (hK.2 4 (cA, .boolean) rfl).2
    have e2 := (K.K.2 2 (gZ (g_E Γ), .boolean) rfl).2
    have e : cA = gZ (g_E Γ) := Option.some.inj (e1.symm.trans e2)
    subst e
    exact kk q H1 locs ls (va_P_c hP) (va_D_c hD) hS h)
theorem g_newq {n : Int32} {N' : Nat} (K : gOK Γ cc Ts own) (hcl : Cond.classLink own index "ChiefGrades$Chief" ∈ Ts) (hao : va_AO "ChiefGrades$Chief" (g_s Γ)) (hn : ¬ n < 0) (hN : n.toNatClampNeg = N') (hbytes : N' * 4 ≤ 536870912) (hRm : g_R Γ = R0) (hf0 : cl + 1 ≤ R0.cells ∧ sl + N' ≤ R0.slots) (hd : decode cc pc = .ok (.anewarray index, 3)) (kk : ∀ q : Nat, gGO Γ (cl + 1) (sl + N') (pc + 3) L (.ref q :: st) ((q, .inl (gO (g_E Γ), N', .inr (.inr (.inr (.inr (fun _ => none)))))) :: ws)) : gGO Γ cl sl pc L (.int n :: st) ws := fun H locs ls hP hD hS h =>
  va_newq K.x K.b K.o (K.t _ hcl) hao K.K hP hD hS K.a hn hN hbytes (by rw [hRm]; exact hf0.1) (by rw [hRm]; exact hf0.2) hd (fun q cA H1 hK hP hD hS => by
    obtain ⟨_, _, -, -, -, e1⟩ := (hK.2 4 (cA, .object "ChiefGrades$Chief") rfl).2
    obtain ⟨_, _, -, -, -, e2⟩ := (K.K.2 3 (gO (g_E Γ), .object "ChiefGrades$Chief") rfl).2
    have e : cA = gO (g_E Γ) := Option.some.inj (e1.symm.trans e2)
    subst e
    exact kk q H1 locs ls (va_P_c hP) (va_D_c hD) hS h)
theorem g_objInit {a : Nat} (K : gOK Γ cc Ts own) (h1 : Cond.methodLink own index objectInit ∈ Ts) (h2 : Cond.instanceMethod objectInit ∈ Ts) (h3 : Cond.code objectInit ⟨#[0xb1]⟩ 1 none ∈ Ts) (hRm : g_R Γ = R0) (hR : 1 ≤ R0.frames ∧ 12 ≤ R0.locals) (hd : decode cc pc = .ok (.invokespecial index, 3)) (k : gGO Γ cl sl (pc + 3) L [] ws) : gGO Γ cl sl pc L [.ref a] ws := fun H locs ls hP hD hS h => by
  refine W.objInit K.x K.b K.o (K.t _ h1) (K.t _ h2) (K.t _ h3) rfl (by rw [K.n]; exact h.1) rfl hd (by rw [hRm]; exact hR.1) (by rw [hRm]; exact hR.2) ?_
  exact W.eq (g2 := F0 (g_m Γ) (pc + 3) ls []) rfl (k H locs ls hP hD hS h)
theorem g_aastW {a n v k : Nat} {f : Nat → Option Nat} {i : Int32} {fs : List Value} {ws' : va_W} (K : gOK Γ cc Ts own) (q0 qk : Nat) (he : ws[q0]? = some (a, .inl (gO (g_E Γ), n, .inr (.inr (.inr (.inr f)))))) (hi : vp_in i n) (hk : k < 7) (hv : ws[qk]? = some (v, .inr (gKc.getD k 0, fs))) (hd : decode cc pc = .ok (.aastore, 1)) (hw : ws.set q0 (a, .inl (gO (g_E Γ), n, .inr (.inr (.inr (.inr (va_up f i.toNatClampNeg (some v))))))) = ws') (kk : gGO Γ cl sl (pc + 1) L st ws') : gGO Γ cl sl pc L (.ref v :: .int i :: .ref a :: st) ws := fun H locs ls hP hD hS h => by
  subst hw
  have hca : ∀ j, j < 7 → j ≠ 0 → va_Nw (.castable (gKn.getD j "") "ChiefGrades$Chief") (g_s Γ) := fun j hj h0 => K.X.2.2.2.2.2.2.2 j hj 0 (by decide) (by unfold gUnd; rfl) (fun z => h0 z.symm)
  match k, hk with
  | 0, _ => exact va_astq K.x K.b K.K hP hD hS q0 3 qk 0 he rfl hv rfl hi hd (fun H locs hP hD hS => kk H locs ls hP hD hS h)
  | 1, _ => exact va_astqO K.x K.b K.K hP hD hS q0 3 qk 5 he rfl (hca 1 (by decide) (by decide)) hv rfl hi hd (fun H locs hP hD hS => kk H locs ls hP hD hS h)
  | 2, _ => exact va_astqO K.x K.b K.K hP hD hS q0 3 qk 9 he rfl (hca 2 (by decide) (by decide)) hv rfl hi hd (fun H locs hP hD hS => kk H locs ls hP hD hS h)
  | 3, _ => exact va_astqO K.x K.b K.K hP hD hS q0 3 qk 4 he rfl (hca 3 (by decide) (by decide)) hv rfl hi hd (fun H locs hP hD hS => kk H locs ls hP hD hS h)
  | 4, _ => exact va_astqO K.x K.b K.K hP hD hS q0 3 qk 6 he rfl (hca 4 (by decide) (by decide)) hv rfl hi hd (fun H locs hP hD hS => kk H locs ls hP hD hS h)
  | 5, _ => exact va_astqO K.x K.b K.K hP hD hS q0 3 qk 3 he rfl (hca 5 (by decide) (by decide)) hv rfl hi hd (fun H locs hP hD hS => kk H locs ls hP hD hS h)
  | 6, _ => exact va_astqO K.x K.b K.K hP hD hS q0 3 qk 7 he rfl (hca 6 (by decide) (by decide)) hv rfl hi hd (fun H locs hP hD hS => kk H locs ls hP hD hS h)
variable {y : MethodName} {bytes : ByteArray} {maxL n mc ms : Nat} {wy wy' : List Cond} {rm : Room} {As : List Value} {b : Nat}
theorem g_callSq (K : gOK Γ cc Ts own) {post : Option Nat → va_W → Prop} (hM : gMq y wy rm mc ms (g_E Γ) As ws post) {ret : Option FieldType} (hG : GoodIn Ts (va_wsS own index y wy)) (hw0 : wy = Cond.code y bytes maxL ret :: wy') (hy : y.cls ≠ "java/lang/invoke/MethodHandle" ∧ y.cls ≠ "java/lang/invoke/VarHandle" ∧ (parseMethodDescriptor y.desc).map (fun d => d.parameters.length) = some n) (hRm : g_R Γ = R0) (hrc : rm.cells = mc) (hrs : rm.slots = ms) (hn : As.length = n) (hR0 : rm.frames + 1 ≤ R0.frames ∧ 8 + (maxL + 11) + rm.locals ≤ R0.locals) (hst : (st.map fun v => v.category).sum ≤ 8) (hf0 : cl + mc ≤ R0.cells ∧ sl + ms ≤ R0.slots) (hd : decode cc pc = .ok (.invokestatic index, 3)) (kk : ∀ (r : Option Nat) (w : va_W), post r w → gGO Γ (cl + mc) (sl + ms) (pc + 3) L (va_rf r :: st) w) : gGO Γ cl sl pc L (As.reverse ++ st) ws := fun H locs ls hP hD hS h => by
  have hR : rm.frames + 1 ≤ (g_R Γ).frames ∧ 8 + (maxL + 11) + rm.locals ≤ (g_R Γ).locals := by rw [hRm]; exact hR0
  have hf : cl + mc ≤ (g_R Γ).cells ∧ sl + ms ≤ (g_R Γ).slots := by rw [hRm]; exact hf0
  have hFc : ∀ q, va_A ws H.size q → g_A Γ q := fun q z => by
    rcases z with ⟨i, e, z⟩ | z
    · exact hD.2 i (q, e) z
    · exact K.a q (Nat.le_trans hS.1 z)
  refine va_callq (va_runS (As := As) (rest := st) ⟨K.x, K.b, K.n, K.o, K.t⟩ (hM (g_l Γ) H.size) (va_cwS n K.t hG hw0 hrc hrs hy hR) ⟨gBlind, fun U hU hW => ⟨rfl, by rw [hU], by rw [hU]; exact hP, hD.weaken (fun _ _ _ z => K.an _ z), gX_go K hS U hU hW, fun q z => K.an q (K.a q (Nat.le_trans hS.1 z))⟩⟩ rfl hn h.1 rfl (lv_room hst) hd hf) hS (fun q _ z => hFc q z) hFc (fun r u t H1 locs ht hvm hw hB hz1 hk1 hS => ?_)
  obtain ⟨hP1, hK1, hD1⟩ := hB
  rw [ht] at hP1
  exact kk r u hw H1 locs ls hP1 (hD1.weaken (fun _ q _ z => hFc q.1 z)) hS h

theorem g_cutVi {C : String} {ret : Option FieldType} (K : gOK Γ cc Ts own) (fl wx : va_W) {wc : va_W} {post : Int32 → va_W → Prop} (hM : gMi y wy rm mc ms (gExt (g_E Γ) fl) (.ref b :: As) wc post) (q0 : Nat) {ci : Nat} {fs : List Value} {q : vw_C} (hrv : wc[q0]? = some (b, .inr (ci, fs))) (hc : vwCl[ci]? = some q) (hq : q.1 = C) (hG : GoodIn Ts (wsV own index C y wy)) (hw0 : wy = Cond.code y bytes maxL ret :: wy') (hy : y.cls = C ∧ y.cls ≠ "java/lang/invoke/MethodHandle" ∧ y.cls ≠ "java/lang/invoke/VarHandle" ∧ (parseMethodDescriptor y.desc).map (fun d => d.parameters.length) = some n) (hRm : g_R Γ = R0) (hrc : rm.cells = mc) (hrs : rm.slots = ms) (hn : As.length = n) (hR0 : rm.frames + 1 ≤ R0.frames ∧ 8 + (maxL + 11) + rm.locals ≤ R0.locals) (hst : (st.map fun v => v.category).sum ≤ 8) (hf0 : cl + mc ≤ R0.cells ∧ sl + ms ≤ R0.slots) (hd : decode cc pc = .ok (.invokevirtual index, 3)) (kk : ∀ (r : Int32) (w : va_W), post r w → gGO Γ (cl + mc) (sl + ms) (pc + 3) L (.int r :: st) (w ++ (fl ++ wx))) : gGO Γ cl sl pc L (As.reverse ++ .ref b :: st) (wc ++ (fl ++ wx)) := fun H locs ls hP hD hS h => by
  have hR : rm.frames + 1 ≤ (g_R Γ).frames ∧ 8 + (maxL + 11) + rm.locals ≤ (g_R Γ).locals := by rw [hRm]; exact hR0
  have hf : cl + mc ≤ (g_R Γ).cells ∧ sl + ms ≤ (g_R Γ).slots := by rw [hRm]; exact hf0
  have hPc := va_P_l hP
  have hDc := va_D_l hD
  have hFc : ∀ q, va_A wc H.size q → g_A Γ q := fun q z => by
    rcases z with ⟨i, e, z⟩ | z
    · exact hDc.2 i (q, e) z
    · exact K.a q (Nat.le_trans hS.1 z)
  have hfl : ∀ e ∈ fl, e.1 < H.size ∧ ∀ (k : Nat) (q : Nat × va_E), wc[k]? = some q → e.1 ≠ q.1 := fun e he => by
    obtain ⟨j, hj⟩ := List.mem_iff_getElem?.mp he
    exact ⟨(va_P_l (va_P_r hP) j e hj).lt, fun k q hk z => va_D_x hD k j q e hk (va_ix_l hj) z.symm⟩
  refine va_calli (va_runV (As := As) (rest := st) ⟨K.x, K.b, K.n, K.o, K.t⟩ (hM (g_l Γ) H.size) (cwV n K.t hG hw0 hrc hrs hy hR) ⟨gBlind, (by have z := va_recv K.K hPc hc hrv; rw [hq] at z; exact z), fun U hU hW => ⟨rfl, by rw [hU], by rw [hU]; exact hPc, ⟨hDc.1, fun k q hk => ⟨K.an _ (hDc.2 k q hk), fun e he => (hfl e he).2 k q hk⟩⟩, gX_ext (gX_go K hS U hU hW) (by rw [hU]; exact va_P_l (va_P_r hP)), fun q z => ⟨K.an q (K.a q (Nat.le_trans hS.1 z)), fun e he z2 => by have := (hfl e he).1; omega⟩⟩⟩ rfl hn h.1 rfl (lv_room hst) hd hf) hS (fun q _ z => hFc q z) hFc (fun r u t H1 locs ht hvm hw hB hz1 hk1 hS => ?_)
  obtain ⟨hP1, hK1, hD1⟩ := hB
  rw [ht] at hP1
  have hap : ∀ (k : Nat) (q : Nat × va_E), (fl ++ wx)[k]? = some q → q.1 < H.size ∧ ¬ va_A wc H.size q.1 := fun k q hk => by
    have hl := (va_P_r hP k q hk).lt
    refine ⟨hl, fun z => ?_⟩
    rcases z with ⟨i, e, z⟩ | z
    · exact va_D_x hD i k (q.1, e) q z hk rfl
    · omega
  refine kk r u hw H1 locs ls (va_P.app hP1 ((va_P_r hP).kept (fun k q hk => hk1 q.1 (hap k q hk).1 (hap k q hk).2))) (va_D.app (hD1.weaken (fun _ q _ z => hFc q.1 z)) (va_D_r hD) (fun i j x z hx hz e => (hap j z hz).2 (by rw [← e]; exact hD1.2 i x hx))) hS h

theorem g_cutVl {C : String} {ret : Option FieldType} (K : gOK Γ cc Ts own) (fl wx : va_W) {wc : va_W} {post : Int64 → va_W → Prop} (hM : gMl y wy rm mc ms (gExt (g_E Γ) fl) (.ref b :: As) wc post) (q0 : Nat) {ci : Nat} {fs : List Value} {q : vw_C} (hrv : wc[q0]? = some (b, .inr (ci, fs))) (hc : vwCl[ci]? = some q) (hq : q.1 = C) (hG : GoodIn Ts (wsV own index C y wy)) (hw0 : wy = Cond.code y bytes maxL ret :: wy') (hy : y.cls = C ∧ y.cls ≠ "java/lang/invoke/MethodHandle" ∧ y.cls ≠ "java/lang/invoke/VarHandle" ∧ (parseMethodDescriptor y.desc).map (fun d => d.parameters.length) = some n) (hRm : g_R Γ = R0) (hrc : rm.cells = mc) (hrs : rm.slots = ms) (hn : As.length = n) (hR0 : rm.frames + 1 ≤ R0.frames ∧ 8 + (maxL + 11) + rm.locals ≤ R0.locals) (hst : (st.map fun v => v.category).sum ≤ 8) (hf0 : cl + mc ≤ R0.cells ∧ sl + ms ≤ R0.slots) (hd : decode cc pc = .ok (.invokevirtual index, 3)) (kk : ∀ (r : Int64) (w : va_W), post r w → gGO Γ (cl + mc) (sl + ms) (pc + 3) L (.long r :: st) (w ++ (fl ++ wx))) : gGO Γ cl sl pc L (As.reverse ++ .ref b :: st) (wc ++ (fl ++ wx)) := fun H locs ls hP hD hS h => by
  have hR : rm.frames + 1 ≤ (g_R Γ).frames ∧ 8 + (maxL + 11) + rm.locals ≤ (g_R Γ).locals := by rw [hRm]; exact hR0
  have hf : cl + mc ≤ (g_R Γ).cells ∧ sl + ms ≤ (g_R Γ).slots := by rw [hRm]; exact hf0
  have hPc := va_P_l hP
  have hDc := va_D_l hD
  have hFc : ∀ q, va_A wc H.size q → g_A Γ q := fun q z => by
    rcases z with ⟨i, e, z⟩ | z
    · exact hDc.2 i (q, e) z
    · exact K.a q (Nat.le_trans hS.1 z)
  have hfl : ∀ e ∈ fl, e.1 < H.size ∧ ∀ (k : Nat) (q : Nat × va_E), wc[k]? = some q → e.1 ≠ q.1 := fun e he => by
    obtain ⟨j, hj⟩ := List.mem_iff_getElem?.mp he
    exact ⟨(va_P_l (va_P_r hP) j e hj).lt, fun k q hk z => va_D_x hD k j q e hk (va_ix_l hj) z.symm⟩
  refine va_calll (va_runV (As := As) (rest := st) ⟨K.x, K.b, K.n, K.o, K.t⟩ (hM (g_l Γ) H.size) (cwV n K.t hG hw0 hrc hrs hy hR) ⟨gBlind, (by have z := va_recv K.K hPc hc hrv; rw [hq] at z; exact z), fun U hU hW => ⟨rfl, by rw [hU], by rw [hU]; exact hPc, ⟨hDc.1, fun k q hk => ⟨K.an _ (hDc.2 k q hk), fun e he => (hfl e he).2 k q hk⟩⟩, gX_ext (gX_go K hS U hU hW) (by rw [hU]; exact va_P_l (va_P_r hP)), fun q z => ⟨K.an q (K.a q (Nat.le_trans hS.1 z)), fun e he z2 => by have := (hfl e he).1; omega⟩⟩⟩ rfl hn h.1 rfl (lv_room hst) hd hf) hS (fun q _ z => hFc q z) hFc (fun r u t H1 locs ht hvm hw hB hz1 hk1 hS => ?_)
  obtain ⟨hP1, hK1, hD1⟩ := hB
  rw [ht] at hP1
  have hap : ∀ (k : Nat) (q : Nat × va_E), (fl ++ wx)[k]? = some q → q.1 < H.size ∧ ¬ va_A wc H.size q.1 := fun k q hk => by
    have hl := (va_P_r hP k q hk).lt
    refine ⟨hl, fun z => ?_⟩
    rcases z with ⟨i, e, z⟩ | z
    · exact va_D_x hD i k (q.1, e) q z hk rfl
    · omega
  refine kk r u hw H1 locs ls (va_P.app hP1 ((va_P_r hP).kept (fun k q hk => hk1 q.1 (hap k q hk).1 (hap k q hk).2))) (va_D.app (hD1.weaken (fun _ q _ z => hFc q.1 z)) (va_D_r hD) (fun i j x z hx hz e => (hap j z hz).2 (by rw [← e]; exact hD1.2 i x hx))) hS h
/-! one method makes an array of chiefs -/
def gPreA (E : gE) (sz : Nat) (wc : va_W) : State → Prop := fun U => gPre E sz wc U ∧ va_AO "ChiefGrades$Chief" U
theorem gBlindA {av : List Value} {E : gE} {sz : Nat} {wc : va_W} : FrameBlind (va_Pc av (gPreA E sz wc)) := by
  intro a U g mk q
  obtain ⟨q0, ⟨q1, q2, q3, q4, q5⟩, q6⟩ := q
  exact ⟨q0, ⟨q1, q2, q3, gX_calling q4, q5⟩, va_AO.moved (u := U) (Vm.Alike.refl U.vm) q6⟩
def gMvA (y : MethodName) (wy : List Cond) (rm : Room) (mc ms : Nat) (E : gE) (av : List Value) (wc : va_W) (post : va_W → Prop) : Prop := ∀ (l : Launch) (sz : Nat), Met l y wy rm (va_Pc av (gPreA E sz wc)) (va_Qv post (gB E (va_A wc sz)) (va_A wc sz)) mc ms (va_A wc sz)
theorem g_met_vA {y : MethodName} {rm : Room} {cc : ByteArray} {nL : Nat} {E : gE} {av : List Value} {wc : va_W} {post : va_W → Prop} {mc ms : Nat} (hy : plainName y.cls = true) (hlen : (lg_sl av).length ≤ nL)
    (body : ∀ Γ : gT, gOK Γ cc gU y.cls → g_n Γ = nL → g_E Γ = E → g_R Γ = rm → (g_me Γ).name = y.name → va_AO "ChiefGrades$Chief" (g_s Γ) → (∀ (pc : Nat) (L : List (Nat × Value)) (w : va_W), decode cc pc = .ok (.return_, 1) → post w → gGO Γ mc ms pc L [] w) → gGO Γ 0 0 0 (lv_args 0 av) [] wc) : gMvA y (.code y cc nL none :: gU) rm mc ms E av wc post := by
  intro l sz
  refine Met.ofW (cc := cc) (maxL := nL) (ret := none) hy rfl ?_
  intro p e s m args below meth c s₁ B hml hv
  obtain ⟨rfl, ⟨hsz, hP, hD0, hX, hN⟩, hao⟩ := hv
  subst hsz
  have hl := lv_entry av hlen
  rw [lg_entry_eq]
  generalize (lg_sl av ++ List.replicate (nL - (lg_sl av).length) Slot.unset).toArray = ls at hl ⊢
  refine body (p, l, e, (headSpec (.code y cc nL none :: gU) rm).room, s, m, av.toArray, below, meth, c, MQ below (va_Qv post (gB E (va_A wc s.heap.size)) (va_A wc s.heap.size)) av.toArray s mc ms (va_A wc s.heap.size), E, va_A wc s.heap.size, nL) ⟨B.exec, B.bytes, hml, findClass_of_methodNamed B.named, fun w hw => atoms_spec (ws := .code y cc nL none :: gU) B.pre w (List.mem_cons_of_mem _ hw), fun q h => Or.inr h, ?_, hX⟩ rfl rfl rfl (name_of_methodNamed B.named B.method).1 hao ?_ s.heap [] ls hP hD0.self va_S.rf hl
  · intro q h
    rcases h with ⟨k, e, h⟩ | h
    · exact hD0.2 k (q, e) h
    · exact hN q h
  · intro pc L w hd hp H locs ls hP hD hS h
    exact W.vret B.exec B.bytes B.returns (fun t ht hW => ⟨⟨w, rfl, hp, by rw [ht]; exact hP, va_K.moved hW.alike hX.2.1, hD⟩, hS.F ht⟩) hS.2.2 hd B.notSynchronized

theorem g_callIvA (K : gOK Γ cc Ts own) {post : va_W → Prop} (hM : gMvA y wy rm mc ms (g_E Γ) (.ref b :: As) ws post) (hao : va_AO "ChiefGrades$Chief" (g_s Γ)) (hG : GoodIn Ts wy) (hw0 : wy = Cond.code y bytes maxL none :: wy') (hini : Cond.initialized y.cls ∈ Ts) (hli : Cond.methodLink own index y ∈ Ts) (hin : Cond.instanceMethod y ∈ Ts) (hy1 : y.name = "<init>") (hy : y.cls ≠ "java/lang/invoke/MethodHandle" ∧ y.cls ≠ "java/lang/invoke/VarHandle" ∧ (parseMethodDescriptor y.desc).map (fun d => d.parameters.length) = some n) (hRm : g_R Γ = R0) (hrc : rm.cells = mc) (hrs : rm.slots = ms) (hn : As.length = n) (hR0 : rm.frames + 1 ≤ R0.frames ∧ 8 + (maxL + 11) + rm.locals ≤ R0.locals) (hst : (st.map fun v => v.category).sum ≤ 8) (hf0 : cl + mc ≤ R0.cells ∧ sl + ms ≤ R0.slots) (hd : decode cc pc = .ok (.invokespecial index, 3)) (kk : ∀ (w : va_W), post w → gGO Γ (cl + mc) (sl + ms) (pc + 3) L (st) w) : gGO Γ cl sl pc L (As.reverse ++ .ref b :: st) ws := fun H locs ls hP hD hS h => by
  have hR : rm.frames + 1 ≤ (g_R Γ).frames ∧ 8 + (maxL + 11) + rm.locals ≤ (g_R Γ).locals := by rw [hRm]; exact hR0
  have hf : cl + mc ≤ (g_R Γ).cells ∧ sl + ms ≤ (g_R Γ).slots := by rw [hRm]; exact hf0
  have hFc : ∀ q, va_A ws H.size q → g_A Γ q := fun q z => by
    rcases z with ⟨i, e, z⟩ | z
    · exact hD.2 i (q, e) z
    · exact K.a q (Nat.le_trans hS.1 z)
  refine va_callv (va_runI (As := As) (rest := st) ⟨K.x, K.b, K.n, K.o, K.t⟩ (hM (g_l Γ) H.size) (cwI n K.t hG hw0 hrc hrs (K.t _ hini) (K.t _ hli) (K.t _ hin) hy1 hy hR) ⟨gBlindA, fun U hU hW => ⟨rfl, ⟨by rw [hU], by rw [hU]; exact hP, hD.weaken (fun _ _ _ z => K.an _ z), gX_go K hS U hU hW, fun q z => K.an q (K.a q (Nat.le_trans hS.1 z))⟩, va_AO.moved hW.alike hao⟩⟩ rfl hn h.1 rfl (lv_room hst) hd hf) hS (fun q _ z => hFc q z) hFc (fun u t H1 locs ht hvm hw hB hz1 hk1 hS => ?_)
  obtain ⟨hP1, hK1, hD1⟩ := hB
  rw [ht] at hP1
  exact kk u hw H1 locs ls hP1 (hD1.weaken (fun _ q _ z => hFc q.1 z)) hS h
end NEW
