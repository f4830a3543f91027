/-! CONSTANT TEXTS -/
def gnarr (ty : FieldType) (v : Int32) : Bool := decide (vp_nar ty v = v)
theorem gnarr_nar {v : Int32} (h : gnarr .char v = true) : narrow .char (.int v) = .int v := congrArg Value.int (of_decide_eq_true h)
section STXS
variable {Γ : gT} {cc : ByteArray} {Ts : List Cond} {own : String} {cl sl pc index : Nat} {L : List (Nat × Value)} {st : List Value} {ws : va_W} {i0 : Nat}
theorem g_i2b {x : Int32} (K : gOK Γ cc Ts own) (hd : decode cc pc = .ok (.i2b, 1)) (k : gGO Γ cl sl (pc + 1) L (.int (Int8.toInt32 (Int32.toInt8 x)) :: st) ws) : gGO Γ cl sl pc L (.int x :: st) ws := fun H locs ls hP hD hS h => lv_i2b K.x K.b hd rfl (k H locs ls hP hD hS h)
theorem g_tabDef {dflt lo hi : Int} {offs : Array Int} {len : Nat} {x : Int32} {tgt : Nat} (K : gOK Γ cc Ts own) (hd : decode cc pc = .ok (.tableswitch dflt lo hi offs, len)) (hs : hi - lo < offs.size) (hx : ∀ k : Nat, k < offs.size → x.toInt = lo + k → offs[k]? = some dflt) (ht : (pc : Int) + dflt = (tgt : Int)) (k : gGO Γ cl sl tgt L st ws) : gGO Γ cl sl pc L (.int x :: st) ws := by
  by_cases h1 : x.toInt < lo
  · exact g_tabOut K hd (Or.inl h1) ht k
  · by_cases h2 : hi < x.toInt
    · exact g_tabOut K hd (Or.inr h2) ht k
    · exact g_tabIn K hd h1 h2 (hx _ (by omega) (by omega)) ht k
theorem gS_at (K : gOK Γ cc Ts own) : vk_S 7 stxLen stxByt (gK (g_E Γ)) (gV (g_E Γ)) (g_A Γ) (g_s Γ) (g_s Γ).heap := vk_S.narrow K.X.2.2.1 K.an
theorem g_getsC (K : gOK Γ cc Ts own) (hl : Cond.fieldLink own index "java/lang/String" "COMPACT_STRINGS" "Z" ∈ Ts) (hd : decode cc pc = .ok (.getstatic index, 3)) (k : gGO Γ cl sl (pc + 3) L (.int 1 :: st) ws) : gGO Γ cl sl pc L st ws := fun H locs ls hP hD hS h => va_gets K.x K.b (va_Z.narrow K.X.2.2.2.1 K.an) hS K.o (K.t _ hl) (fun _ h => h) hd (k H locs ls hP hD hS h)
theorem g_getsQ (K : gOK Γ cc Ts own) (hl : Cond.fieldLink own index "jdk/internal/util/Preconditions" "SIOOBE_FORMATTER" "Ljava/util/function/BiFunction;" ∈ Ts) (hd : decode cc pc = .ok (.getstatic index, 3)) (k : ∀ o : Option Nat, gGO Γ cl sl (pc + 3) L (va_rf o :: st) ws) : gGO Γ cl sl pc L st ws := fun H locs ls hP hD hS h => by
  rcases va_Zq.narrow K.X.2.2.2.2.1 K.an with z | ⟨t, z⟩
  · exact va_gets K.x K.b z hS K.o (K.t _ hl) (fun _ h => h) hd (k none H locs ls hP hD hS h)
  · exact va_gets K.x K.b z hS K.o (K.t _ hl) (fun _ h => h) hd (k (some t) H locs ls hP hD hS h)
theorem g_sval (K : gOK Γ cc Ts own) (hi : i0 < 7) (hl : Cond.fieldLink own index "java/lang/String" "value" "[B" ∈ Ts) (hd : decode cc pc = .ok (.getfield index, 3)) (k : gGO Γ cl sl (pc + 3) L (.ref (gV (g_E Γ) i0) :: st) ws) : gGO Γ cl sl pc L (.ref (gK (g_E Γ) i0) :: st) ws := fun H locs ls hP hD hS h => vk_getf K.x K.b ((gS_at K).1 i0 hi).2.2.1 hS K.o (K.t _ hl) (fun _ h => h) hd (k H locs ls hP hD hS h)
theorem g_scod (K : gOK Γ cc Ts own) (hi : i0 < 7) (hl : Cond.fieldLink own index "java/lang/String" "coder" "B" ∈ Ts) (hd : decode cc pc = .ok (.getfield index, 3)) (k : gGO Γ cl sl (pc + 3) L (.int 0 :: st) ws) : gGO Γ cl sl pc L (.ref (gK (g_E Γ) i0) :: st) ws := fun H locs ls hP hD hS h => vk_getf K.x K.b ((gS_at K).1 i0 hi).2.1 hS K.o (K.t _ hl) (fun _ h => h) hd (k H locs ls hP hD hS h)
theorem g_slen (K : gOK Γ cc Ts own) (hi : i0 < 7) (hd : decode cc pc = .ok (.arraylength, 1)) (k : gGO Γ cl sl (pc + 1) L (.int (nI (stxLen.getD i0 0)) :: st) ws) : gGO Γ cl sl pc L (.ref (gV (g_E Γ) i0) :: st) ws := fun H locs ls hP hD hS h => va_tlen K.x K.b ((gS_at K).1 i0 hi).2.2.2 hS rfl hd (k H locs ls hP hD hS h)
theorem g_sbyt {i : Int32} (K : gOK Γ cc Ts own) (hi : i0 < 7) (hin : vp_in i (stxLen.getD i0 0)) (hd : decode cc pc = .ok (.baload, 1)) (k : gGO Γ cl sl (pc + 1) L (.int ((stxByt.getD i0 []).getD i.toNatClampNeg 0) :: st) ws) : gGO Γ cl sl pc L (.int i :: .ref (gV (g_E Γ) i0) :: st) ws := fun H locs ls hP hD hS h => va_tb K.x K.b ((gS_at K).1 i0 hi).2.2.2 hS hin rfl hd (k H locs ls hP hD hS h)
theorem g_ldcS {tx : String} (K : gOK Γ cc Ts own) (i0 : Nat) (hR : (own, index, tx, i0) ∈ stxRef) (hd : decode cc pc = .ok (.ldc index, 2)) (k : gGO Γ cl sl (pc + 2) L (.ref (gK (g_E Γ) i0) :: st) ws) : gGO Γ cl sl pc L st ws := fun H locs ls hP hD hS h => va_ldcS K.x K.b K.o (K.X.2.2.2.2.2.1 _ hR) hd (k H locs ls hP hD hS h)
end STXS
section GOK
variable {Γ : gT} {cc : ByteArray} {Ts : List Cond} {own : String} {cl sl pc : Nat} {L : List (Nat × Value)} {st : List Value} {ws : va_W} {y : MethodName} {bytes : ByteArray} {maxL index n mc ms : Nat} {wy wy' : List Cond} {rm R0 : Room} {As : List Value} {i0 : Nat}
theorem g_callViK (K : gOK Γ cc Ts own) {post : Int32 → va_W → Prop} (hM : gMi y wy rm mc ms (g_E Γ) (.ref (gK (g_E Γ) i0) :: As) ws post) {ret : Option FieldType} (hG : GoodIn Ts (wsV own index "java/lang/String" y wy)) (hw0 : wy = Cond.code y bytes maxL ret :: wy') (hy : y.cls = "java/lang/String" ∧ y.cls ≠ "java/lang/invoke/MethodHandle" ∧ y.cls ≠ "java/lang/invoke/VarHandle" ∧ (parseMethodDescriptor y.desc).map (fun d => d.parameters.length) = some n) (hi : i0 < 7) (hRm : g_R Γ = R0) (hrc : rm.cells = mc) (hrs : rm.slots = ms) (hn : As.length = n) (hR0 : rm.frames + 1 ≤ R0.frames ∧ 8 + (maxL + 11) + rm.locals ≤ R0.locals) (hst : (st.map fun v => v.category).sum ≤ 8) (hf0 : cl + mc ≤ R0.cells ∧ sl + ms ≤ R0.slots) (hd : decode cc pc = .ok (.invokevirtual index, 3)) (kk : ∀ (r : Int32) (w : va_W), post r w → gGO Γ (cl + mc) (sl + ms) (pc + 3) L (.int r :: st) w) : gGO Γ cl sl pc L (As.reverse ++ .ref (gK (g_E Γ) i0) :: st) ws := fun H locs ls hP hD hS h => by
  have hR : rm.frames + 1 ≤ (g_R Γ).frames ∧ 8 + (maxL + 11) + rm.locals ≤ (g_R Γ).locals := by rw [hRm]; exact hR0
  have hf : cl + mc ≤ (g_R Γ).cells ∧ sl + ms ≤ (g_R Γ).slots := by rw [hRm]; exact hf0
  have hFc : ∀ q, va_A ws H.size q → g_A Γ q := fun q z => by
    rcases z with ⟨i, e, z⟩ | z
    · exact hD.2 i (q, e) z
    · exact K.a q (Nat.le_trans hS.1 z)
  refine va_calli (va_runV (As := As) (rest := st) ⟨K.x, K.b, K.n, K.o, K.t⟩ (hM (g_l Γ) H.size) (cwV n K.t hG hw0 hrc hrs hy hR) ⟨gBlind, (vk_recv (gS_at K) hi hS), fun U hU hW => ⟨rfl, by rw [hU], by rw [hU]; exact hP, hD.weaken (fun _ _ _ z => K.an _ z), gX_go K hS U hU hW, fun q z => K.an q (K.a q (Nat.le_trans hS.1 z))⟩⟩ rfl hn h.1 rfl (lv_room hst) hd hf) hS (fun q _ z => hFc q z) hFc (fun r u t H1 locs ht hvm hw hB hz1 hk1 hS => ?_)
  obtain ⟨hP1, hK1, hD1⟩ := hB
  rw [ht] at hP1
  exact kk r u hw H1 locs ls hP1 (hD1.weaken (fun _ q _ z => hFc q.1 z)) hS h

end GOK
theorem qv_J0_coder_7d493 : yJ0_coder_7d493.cls = RJ0 ∧ yJ0_coder_7d493.cls ≠ "java/lang/invoke/MethodHandle" ∧ yJ0_coder_7d493.cls ≠ "java/lang/invoke/VarHandle" ∧ (parseMethodDescriptor yJ0_coder_7d493.desc).map (fun d => d.parameters.length) = some 0 := by decide +kernel
theorem qv_J0_length_8abf5 : yJ0_length_8abf5.cls = RJ0 ∧ yJ0_length_8abf5.cls ≠ "java/lang/invoke/MethodHandle" ∧ yJ0_length_8abf5.cls ≠ "java/lang/invoke/VarHandle" ∧ (parseMethodDescriptor yJ0_length_8abf5.desc).map (fun d => d.parameters.length) = some 0 := by decide +kernel
theorem qv_J0_isLatin1_aae02 : yJ0_isLatin1_aae02.cls = RJ0 ∧ yJ0_isLatin1_aae02.cls ≠ "java/lang/invoke/MethodHandle" ∧ yJ0_isLatin1_aae02.cls ≠ "java/lang/invoke/VarHandle" ∧ (parseMethodDescriptor yJ0_isLatin1_aae02.desc).map (fun d => d.parameters.length) = some 0 := by decide +kernel
theorem qs_J3_checkIndex_8e157 : yJ3_checkIndex_8e157.cls ≠ "java/lang/invoke/MethodHandle" ∧ yJ3_checkIndex_8e157.cls ≠ "java/lang/invoke/VarHandle" ∧ (parseMethodDescriptor yJ3_checkIndex_8e157.desc).map (fun d => d.parameters.length) = some 3 := by decide +kernel
theorem qs_J0_checkIndex_df160 : yJ0_checkIndex_df160.cls ≠ "java/lang/invoke/MethodHandle" ∧ yJ0_checkIndex_df160.cls ≠ "java/lang/invoke/VarHandle" ∧ (parseMethodDescriptor yJ0_checkIndex_df160.desc).map (fun d => d.parameters.length) = some 2 := by decide +kernel
theorem qs_J1_charAt_3b067 : yJ1_charAt_3b067.cls ≠ "java/lang/invoke/MethodHandle" ∧ yJ1_charAt_3b067.cls ≠ "java/lang/invoke/VarHandle" ∧ (parseMethodDescriptor yJ1_charAt_3b067.desc).map (fun d => d.parameters.length) = some 2 := by decide +kernel
theorem qv_J0_charAt_5068e : yJ0_charAt_5068e.cls = RJ0 ∧ yJ0_charAt_5068e.cls ≠ "java/lang/invoke/MethodHandle" ∧ yJ0_charAt_5068e.cls ≠ "java/lang/invoke/VarHandle" ∧ (parseMethodDescriptor yJ0_charAt_5068e.desc).map (fun d => d.parameters.length) = some 1 := by decide +kernel
theorem qs_J1_canEncode_9a6ad : yJ1_canEncode_9a6ad.cls ≠ "java/lang/invoke/MethodHandle" ∧ yJ1_canEncode_9a6ad.cls ≠ "java/lang/invoke/VarHandle" ∧ (parseMethodDescriptor yJ1_canEncode_9a6ad.desc).map (fun d => d.parameters.length) = some 1 := by decide +kernel
theorem qs_J1_indexOfChar_4cfef : yJ1_indexOfChar_4cfef.cls ≠ "java/lang/invoke/MethodHandle" ∧ yJ1_indexOfChar_4cfef.cls ≠ "java/lang/invoke/VarHandle" ∧ (parseMethodDescriptor yJ1_indexOfChar_4cfef.desc).map (fun d => d.parameters.length) = some 4 := by decide +kernel
theorem qs_J1_indexOf_4cfef : yJ1_indexOf_4cfef.cls ≠ "java/lang/invoke/MethodHandle" ∧ yJ1_indexOf_4cfef.cls ≠ "java/lang/invoke/VarHandle" ∧ (parseMethodDescriptor yJ1_indexOf_4cfef.desc).map (fun d => d.parameters.length) = some 4 := by decide +kernel
theorem qv_J0_indexOf_7cf53 : yJ0_indexOf_7cf53.cls = RJ0 ∧ yJ0_indexOf_7cf53.cls ≠ "java/lang/invoke/MethodHandle" ∧ yJ0_indexOf_7cf53.cls ≠ "java/lang/invoke/VarHandle" ∧ (parseMethodDescriptor yJ0_indexOf_7cf53.desc).map (fun d => d.parameters.length) = some 2 := by decide +kernel
theorem qv_J0_indexOf_0f7a4 : yJ0_indexOf_0f7a4.cls = RJ0 ∧ yJ0_indexOf_0f7a4.cls ≠ "java/lang/invoke/MethodHandle" ∧ yJ0_indexOf_0f7a4.cls ≠ "java/lang/invoke/VarHandle" ∧ (parseMethodDescriptor yJ0_indexOf_0f7a4.desc).map (fun d => d.parameters.length) = some 1 := by decide +kernel
def pJ0_coder_7d493 (i0 : Nat) : Option (Int32) :=
  some (0)


def pJ0_length_8abf5 (i0 : Nat) : Option (Int32) :=
  gbd (pJ0_coder_7d493 i0) fun z_1 =>
  some (((nI (stxLen.getD i0 0)) >>> (z_1 &&& 31)))


def pJ0_isLatin1_aae02 (i0 : Nat) : Option (Int32) :=
  some (1)


def pJ3_checkIndex_8e157 (x0 : Int32) (x1 : Int32) : Option (Int32) :=
  if x0 < 0 then
    none
  else
    if x0 < x1 then
      some (x0)
    else
      none


def pJ0_checkIndex_df160 (x0 : Int32) (x1 : Int32) : Option (Unit) :=
  gbd (pJ3_checkIndex_8e157 x0 x1) fun z_2 =>
  some ()


def pJ1_charAt_3b067 (i0 : Nat) (x1 : Int32) : Option (Int32) :=
  gbd (pJ0_checkIndex_df160 x1 (nI (stxLen.getD i0 0))) fun z_1 =>
  gck (ginb x1 (stxLen.getD i0 0)) <|
  gck (gnarr .char (UInt32.toInt32 (Int32.toUInt32 (((stxByt.getD i0 []).getD (Int32.toNatClampNeg x1) 0) &&& 255) % 65536)) = true) <|
  some ((UInt32.toInt32 (Int32.toUInt32 (((stxByt.getD i0 []).getD (Int32.toNatClampNeg x1) 0) &&& 255) % 65536)))


def pJ0_charAt_5068e (i0 : Nat) (x1 : Int32) : Option (Int32) :=
  gbd (pJ0_isLatin1_aae02 i0) fun z_1 =>
  if z_1 = 0 then
    none
  else
    gbd (pJ1_charAt_3b067 i0 x1) fun z_2 =>
    gck (gnarr .char z_2 = true) <|
    some (z_2)


def pJ1_canEncode_9a6ad (x0 : Int32) : Option (Int32) :=
  if x0 < 0 then
    some (0)
  else
    if 255 < x0 then
      some (0)
    else
      some (1)


def pJ1_indexOfChar_4cfef_7 (i0 : Nat) : Nat → Int32 → Int32 → Int32 → Option (Int32)
  | 0, _, _, _ => none
  | n + 1, x3, x4, x5 =>
  if x3 ≤ x5 then
    some ((-1))
  else
    gck (ginb x5 (stxLen.getD i0 0)) <|
    if ((stxByt.getD i0 []).getD (Int32.toNatClampNeg x5) 0) = x4 then
      some (x5)
    else
      pJ1_indexOfChar_4cfef_7 i0 n x3 x4 (x5 + 1)


def pJ1_indexOfChar_4cfef (i0 : Nat) (x1 : Int32) (x2 : Int32) (x3 : Int32) : Option (Int32) :=
  gnm (Int8.toInt32 (Int32.toInt8 x1)) fun v_1 =>
  pJ1_indexOfChar_4cfef_7 i0 1000 x3 v_1 x2


def pJ1_indexOf_4cfef (i0 : Nat) (x1 : Int32) (x2 : Int32) (x3 : Int32) : Option (Int32) :=
  gbd (pJ1_canEncode_9a6ad x1) fun z_1 =>
  if z_1 = 0 then
    some ((-1))
  else
    gnm (if x2 < 0 then 0 else x2) fun v_2 =>
    gnm (if (nI (stxLen.getD i0 0)) < x3 then (nI (stxLen.getD i0 0)) else x3) fun v_3 =>
    if v_2 < v_3 then
      gbd (pJ1_indexOfChar_4cfef i0 x1 v_2 v_3) fun z_4 =>
      some (z_4)
    else
      some ((-1))


def pJ0_indexOf_7cf53 (i0 : Nat) (x1 : Int32) (x2 : Int32) : Option (Int32) :=
  gbd (pJ0_isLatin1_aae02 i0) fun z_1 =>
  if z_1 = 0 then
    none
  else
    gbd (pJ0_length_8abf5 i0) fun z_2 =>
    gbd (pJ1_indexOf_4cfef i0 x1 x2 z_2) fun z_3 =>
    some (z_3)


def pJ0_indexOf_0f7a4 (i0 : Nat) (x1 : Int32) : Option (Int32) :=
  gbd (pJ0_indexOf_7cf53 i0 x1 0) fun z_1 =>
  some (z_1)


set_option maxHeartbeats 4000000 in
set_option maxRecDepth 100000 in
theorem wJ0_coder_7d493 {Γ : gT} {ws : va_W} {i0 : Nat} (hi0 : i0 < 7) (K : gOK Γ cJ0_coder_7d493 gU RJ0) (hlt : ∀ i, i < 1 → i < g_n Γ) (hRm : g_R Γ = ({ frames := 4, cells := 0, slots := 0, locals := 150 } : Room)) {res : Int32} (hret : ∀ (pc : Nat) (L : List (Nat × Value)) (v : Int32) (w : va_W), decode cJ0_coder_7d493 pc = .ok (.ireturn, 1) → narrow .byte (.int v) = .int v → (v = res ∧ w = ws) → gGO Γ 0 0 pc L [.int v] w) (h : pJ0_coder_7d493 i0 = some res) : gGO Γ 0 0 0 [(0, .ref (gK (g_E Γ) i0))] [] (ws) := by
    unfold pJ0_coder_7d493 at h
    refine g_getsC K u_381 dJ0_coder_7d493_0 ?_
    refine g_if_eq (tgt := 13) K dJ0_coder_7d493_3 (by decide) (fun qh => absurd qh (by decide)) (fun qh => ?_)
    refine g_aload_n K dJ0_coder_7d493_6 rfl 0 rfl ?_
    refine g_scod K hi0 u_1391 dJ0_coder_7d493_7 ?_
    refine g_goto (tgt := 14) K dJ0_coder_7d493_10 (by decide) ?_
    obtain rfl := Option.some.inj h
    exact hret _ _ _ _ dJ0_coder_7d493_14 (by decide) ⟨rfl, rfl⟩

set_option maxRecDepth 100000 in
theorem ctJ0_coder_7d493 {E : gE} {ws : va_W} {i0 : Nat} (hi0 : i0 < 7) {res : Int32} (h : pJ0_coder_7d493 i0 = some res) : gMi yJ0_coder_7d493 (.code yJ0_coder_7d493 cJ0_coder_7d493 1 (some .byte) :: gU) ({ frames := 4, cells := 0, slots := 0, locals := 150 } : Room) 0 0 E [.ref (gK E i0)] ws (fun v w => v = res ∧ w = ws) := by
  refine g_met_i (by decide +kernel) (Nat.le_of_ble_eq_true rfl) (fun Γ K hn hE hRm _ hret => ?_)
  subst hE
  have hlt : ∀ i, i < 1 → i < g_n Γ := fun i q => by rw [hn]; exact q
  refine g_sub (L' := [(0, .ref (gK (g_E Γ) i0))]) [0] rfl ?_
  exact wJ0_coder_7d493 hi0 K hlt hRm hret h

set_option maxHeartbeats 4000000 in
set_option maxRecDepth 100000 in
theorem wJ0_length_8abf5 {Γ : gT} {ws : va_W} {i0 : Nat} (hi0 : i0 < 7) (K : gOK Γ cJ0_length_8abf5 gU RJ0) (hlt : ∀ i, i < 1 → i < g_n Γ) (hRm : g_R Γ = ({ frames := 5, cells := 0, slots := 0, locals := 170 } : Room)) {res : Int32} (hret : ∀ (pc : Nat) (L : List (Nat × Value)) (v : Int32) (w : va_W), decode cJ0_length_8abf5 pc = .ok (.ireturn, 1) → narrow .int (.int v) = .int v → (v = res ∧ w = ws) → gGO Γ 0 0 pc L [.int v] w) (h : pJ0_length_8abf5 i0 = some res) : gGO Γ 0 0 0 [(0, .ref (gK (g_E Γ) i0))] [] (ws) := by
    unfold pJ0_length_8abf5 at h
    refine g_aload_n K dJ0_length_8abf5_0 rfl 0 rfl ?_
    refine g_sval K hi0 u_1390 dJ0_length_8abf5_1 ?_
    refine g_slen K hi0 dJ0_length_8abf5_4 ?_
    refine g_aload_n K dJ0_length_8abf5_5 rfl 0 rfl ?_
    obtain ⟨z_1, hz_1, h⟩ := gi_bd h
    refine g_callViK (As := []) (bytes := cJ0_coder_7d493) (maxL := 1) (ret := (some .byte)) K (ctJ0_coder_7d493 (ws := ws) hi0 (res := z_1) hz_1) gc_V_RJ0_335_J0_coder_7d493 rfl qv_J0_coder_7d493 hi0 hRm rfl rfl rfl (by decide) (Nat.le_of_ble_eq_true rfl) (by decide) dJ0_length_8abf5_6 (fun v w hw => ?_)
    obtain ⟨hv9, hw9⟩ := hw; have hv9 := hv9.symm; subst hv9; have hw9 := hw9.symm; subst hw9
    refine g_ishr K dJ0_length_8abf5_9 ?_
    obtain rfl := Option.some.inj h
    exact hret _ _ _ _ dJ0_length_8abf5_10 rfl ⟨rfl, rfl⟩

set_option maxRecDepth 100000 in
theorem ctJ0_length_8abf5 {E : gE} {ws : va_W} {i0 : Nat} (hi0 : i0 < 7) {res : Int32} (h : pJ0_length_8abf5 i0 = some res) : gMi yJ0_length_8abf5 (.code yJ0_length_8abf5 cJ0_length_8abf5 1 (some .int) :: gU) ({ frames := 5, cells := 0, slots := 0, locals := 170 } : Room) 0 0 E [.ref (gK E i0)] ws (fun v w => v = res ∧ w = ws) := by
  refine g_met_i (by decide +kernel) (Nat.le_of_ble_eq_true rfl) (fun Γ K hn hE hRm _ hret => ?_)
  subst hE
  have hlt : ∀ i, i < 1 → i < g_n Γ := fun i q => by rw [hn]; exact q
  refine g_sub (L' := [(0, .ref (gK (g_E Γ) i0))]) [0] rfl ?_
  exact wJ0_length_8abf5 hi0 K hlt hRm hret h

set_option maxHeartbeats 4000000 in
set_option maxRecDepth 100000 in
theorem wJ0_isLatin1_aae02 {Γ : gT} {ws : va_W} {i0 : Nat} (hi0 : i0 < 7) (K : gOK Γ cJ0_isLatin1_aae02 gU RJ0) (hlt : ∀ i, i < 1 → i < g_n Γ) (hRm : g_R Γ = ({ frames := 4, cells := 0, slots := 0, locals := 150 } : Room)) {res : Int32} (hret : ∀ (pc : Nat) (L : List (Nat × Value)) (v : Int32) (w : va_W), decode cJ0_isLatin1_aae02 pc = .ok (.ireturn, 1) → narrow .boolean (.int v) = .int v → (v = res ∧ w = ws) → gGO Γ 0 0 pc L [.int v] w) (h : pJ0_isLatin1_aae02 i0 = some res) : gGO Γ 0 0 0 [(0, .ref (gK (g_E Γ) i0))] [] (ws) := by
    unfold pJ0_isLatin1_aae02 at h
    refine g_getsC K u_381 dJ0_isLatin1_aae02_0 ?_
    refine g_if_eq (tgt := 17) K dJ0_isLatin1_aae02_3 (by decide) (fun qh => absurd qh (by decide)) (fun qh => ?_)
    refine g_aload_n K dJ0_isLatin1_aae02_6 rfl 0 rfl ?_
    refine g_scod K hi0 u_1391 dJ0_isLatin1_aae02_7 ?_
    refine g_if_ne (tgt := 17) K dJ0_isLatin1_aae02_10 (by decide) (fun qh => absurd qh (by decide)) (fun qh => ?_)
    refine g_iconst (v := 1) K dJ0_isLatin1_aae02_13 (by decide) ?_
    refine g_goto (tgt := 18) K dJ0_isLatin1_aae02_14 (by decide) ?_
    obtain rfl := Option.some.inj h
    exact hret _ _ _ _ dJ0_isLatin1_aae02_18 (by decide) ⟨rfl, rfl⟩

set_option maxRecDepth 100000 in
theorem ctJ0_isLatin1_aae02 {E : gE} {ws : va_W} {i0 : Nat} (hi0 : i0 < 7) {res : Int32} (h : pJ0_isLatin1_aae02 i0 = some res) : gMi yJ0_isLatin1_aae02 (.code yJ0_isLatin1_aae02 cJ0_isLatin1_aae02 1 (some .boolean) :: gU) ({ frames := 4, cells := 0, slots := 0, locals := 150 } : Room) 0 0 E [.ref (gK E i0)] ws (fun v w => v = res ∧ w = ws) := by
  refine g_met_i (by decide +kernel) (Nat.le_of_ble_eq_true rfl) (fun Γ K hn hE hRm _ hret => ?_)
  subst hE
  have hlt : ∀ i, i < 1 → i < g_n Γ := fun i q => by rw [hn]; exact q
  refine g_sub (L' := [(0, .ref (gK (g_E Γ) i0))]) [0] rfl ?_
  exact wJ0_isLatin1_aae02 hi0 K hlt hRm hret h

set_option maxHeartbeats 4000000 in
set_option maxRecDepth 100000 in
theorem wJ3_checkIndex_8e157 {Γ : gT} {ws : va_W} (K : gOK Γ cJ3_checkIndex_8e157 gU RJ3) (hlt : ∀ i, i < 3 → i < g_n Γ) (hRm : g_R Γ = ({ frames := 4, cells := 0, slots := 0, locals := 150 } : Room)) {res : Int32} (hret : ∀ (pc : Nat) (L : List (Nat × Value)) (v : Int32) (w : va_W), decode cJ3_checkIndex_8e157 pc = .ok (.ireturn, 1) → narrow .int (.int v) = .int v → (v = res ∧ w = ws) → gGO Γ 0 0 pc L [.int v] w) (x0 : Int32) (x1 : Int32) (h : pJ3_checkIndex_8e157 x0 x1 = some res) : gGO Γ 0 0 0 [(0, .int x0), (1, .int x1)] [] (ws) := by
    unfold pJ3_checkIndex_8e157 at h
    refine g_iload_n K dJ3_checkIndex_8e157_0 rfl 0 rfl ?_
    obtain ⟨ht9, hf9⟩ := gi_br h; clear h
    refine g_if_lt (tgt := 9) K dJ3_checkIndex_8e157_1 (by decide) (fun qh => ?_) (fun qh => ?_)
    · have h := ht9 qh; clear ht9 hf9
      cases h
    · have h := hf9 qh; clear ht9 hf9
      refine g_iload_n K dJ3_checkIndex_8e157_4 rfl 0 rfl ?_
      refine g_iload_n K dJ3_checkIndex_8e157_5 rfl 1 rfl ?_
      obtain ⟨ht9, hf9⟩ := gi_br h; clear h
      refine g_icmp_lt (tgt := 16) K dJ3_checkIndex_8e157_6 (by decide) (fun qh => ?_) (fun qh => ?_)
      · have h := ht9 qh; clear ht9 hf9
        refine g_iload_n K dJ3_checkIndex_8e157_16 rfl 0 rfl ?_
        obtain rfl := Option.some.inj h
        exact hret _ _ _ _ dJ3_checkIndex_8e157_17 rfl ⟨rfl, rfl⟩
      · have h := hf9 qh; clear ht9 hf9
        cases h

set_option maxRecDepth 100000 in
theorem ctJ3_checkIndex_8e157 {E : gE} {ws : va_W} (z2 : Option Nat) (x0 : Int32) (x1 : Int32) {res : Int32} (h : pJ3_checkIndex_8e157 x0 x1 = some res) : gMi yJ3_checkIndex_8e157 (.code yJ3_checkIndex_8e157 cJ3_checkIndex_8e157 3 (some .int) :: gU) ({ frames := 4, cells := 0, slots := 0, locals := 150 } : Room) 0 0 E [.int x0, .int x1, va_rf z2] ws (fun v w => v = res ∧ w = ws) := by
  refine g_met_i (by decide +kernel) (by cases z2 <;> exact Nat.le_of_ble_eq_true rfl) (fun Γ K hn hE hRm _ hret => ?_)
  subst hE
  have hlt : ∀ i, i < 3 → i < g_n Γ := fun i q => by rw [hn]; exact q
  cases z2 <;> (refine g_sub (L' := [(0, .int x0), (1, .int x1)]) [0, 1] rfl ?_;   exact wJ3_checkIndex_8e157 K hlt hRm hret x0 x1 h)

set_option maxHeartbeats 4000000 in
set_option maxRecDepth 100000 in
theorem wJ0_checkIndex_df160 {Γ : gT} {ws : va_W} (K : gOK Γ cJ0_checkIndex_df160 gU RJ0) (hlt : ∀ i, i < 2 → i < g_n Γ) (hRm : g_R Γ = ({ frames := 5, cells := 0, slots := 0, locals := 172 } : Room)) {res : Unit} (hret : ∀ (pc : Nat) (L : List (Nat × Value)) (w : va_W), decode cJ0_checkIndex_df160 pc = .ok (.return_, 1) → (w = ws) → gGO Γ 0 0 pc L [] w) (x0 : Int32) (x1 : Int32) (h : pJ0_checkIndex_df160 x0 x1 = some res) : gGO Γ 0 0 0 [(0, .int x0), (1, .int x1)] [] (ws) := by
    unfold pJ0_checkIndex_df160 at h
    refine g_iload_n K dJ0_checkIndex_df160_0 rfl 0 rfl ?_
    refine g_iload_n K dJ0_checkIndex_df160_1 rfl 1 rfl ?_
    refine g_getsQ K u_397 dJ0_checkIndex_df160_2 (fun o_1 => ?_)
    obtain ⟨z_2, hz_2, h⟩ := gi_bd h
    refine g_callSi (As := [.int x0, .int x1, va_rf o_1]) (bytes := cJ3_checkIndex_8e157) (maxL := 3) (ret := (some .int)) K (ctJ3_checkIndex_8e157 (ws := ws) o_1 x0 x1 (res := z_2) hz_2) gc_S_RJ0_1059_J3_checkIndex_8e157 rfl qs_J3_checkIndex_8e157 hRm rfl rfl rfl (by decide) (Nat.le_of_ble_eq_true rfl) (by decide) dJ0_checkIndex_df160_5 (fun v w hw => ?_)
    obtain ⟨hv9, hw9⟩ := hw; have hv9 := hv9.symm; subst hv9; have hw9 := hw9.symm; subst hw9
    refine g_pop K dJ0_checkIndex_df160_8 rfl ?_
    obtain rfl := Option.some.inj h
    exact hret _ _ _ dJ0_checkIndex_df160_9 rfl

set_option maxRecDepth 100000 in
theorem ctJ0_checkIndex_df160 {E : gE} {ws : va_W} (x0 : Int32) (x1 : Int32) {res : Unit} (h : pJ0_checkIndex_df160 x0 x1 = some res) : gMv yJ0_checkIndex_df160 (.code yJ0_checkIndex_df160 cJ0_checkIndex_df160 2 none :: gU) ({ frames := 5, cells := 0, slots := 0, locals := 172 } : Room) 0 0 E [.int x0, .int x1] ws (fun w => w = ws) := by
  refine g_met_v (by decide +kernel) (Nat.le_of_ble_eq_true rfl) (fun Γ K hn hE hRm _ hret => ?_)
  subst hE
  have hlt : ∀ i, i < 2 → i < g_n Γ := fun i q => by rw [hn]; exact q
  refine g_sub (L' := [(0, .int x0), (1, .int x1)]) [0, 1] rfl ?_
  exact wJ0_checkIndex_df160 K hlt hRm hret x0 x1 h

set_option maxHeartbeats 4000000 in
set_option maxRecDepth 100000 in
theorem wJ1_charAt_3b067 {Γ : gT} {ws : va_W} {i0 : Nat} (hi0 : i0 < 7) (K : gOK Γ cJ1_charAt_3b067 gU RJ1) (hlt : ∀ i, i < 2 → i < g_n Γ) (hRm : g_R Γ = ({ frames := 6, cells := 0, slots := 0, locals := 193 } : Room)) {res : Int32} (hret : ∀ (pc : Nat) (L : List (Nat × Value)) (v : Int32) (w : va_W), decode cJ1_charAt_3b067 pc = .ok (.ireturn, 1) → narrow .char (.int v) = .int v → (v = res ∧ w = ws) → gGO Γ 0 0 pc L [.int v] w) (x1 : Int32) (h : pJ1_charAt_3b067 i0 x1 = some res) : gGO Γ 0 0 0 [(0, .ref (gV (g_E Γ) i0)), (1, .int x1)] [] (ws) := by
    unfold pJ1_charAt_3b067 at h
    refine g_iload_n K dJ1_charAt_3b067_0 rfl 1 rfl ?_
    refine g_aload_n K dJ1_charAt_3b067_1 rfl 0 rfl ?_
    refine g_slen K hi0 dJ1_charAt_3b067_2 ?_
    obtain ⟨z_1, hz_1, h⟩ := gi_bd h
    refine g_callSv (As := [.int x1, .int (nI (stxLen.getD i0 0))]) (bytes := cJ0_checkIndex_df160) (maxL := 2) (ret := none) K (ctJ0_checkIndex_df160 (ws := ws) x1 (nI (stxLen.getD i0 0)) (res := z_1) hz_1) gc_S_RJ1_9_J0_checkIndex_df160 rfl qs_J0_checkIndex_df160 hRm rfl rfl rfl (by decide) (Nat.le_of_ble_eq_true rfl) (by decide) dJ1_charAt_3b067_3 (fun w hw => ?_)
    have hw := hw.symm; subst hw
    refine g_aload_n K dJ1_charAt_3b067_6 rfl 0 rfl ?_
    refine g_iload_n K dJ1_charAt_3b067_7 rfl 1 rfl ?_
    obtain ⟨b_2, h⟩ := gi_none h
    refine g_sbyt K hi0 (ginb_in b_2) dJ1_charAt_3b067_8 ?_
    refine g_sipush (v := 255) K dJ1_charAt_3b067_9 (by decide) ?_
    refine g_iand K dJ1_charAt_3b067_12 ?_
    refine g_i2c K dJ1_charAt_3b067_13 ?_
    obtain ⟨c_3, h⟩ := gi_none h
    obtain rfl := Option.some.inj h
    exact hret _ _ _ _ dJ1_charAt_3b067_14 (gnarr_nar c_3) ⟨rfl, rfl⟩

set_option maxRecDepth 100000 in
theorem ctJ1_charAt_3b067 {E : gE} {ws : va_W} {i0 : Nat} (hi0 : i0 < 7) (x1 : Int32) {res : Int32} (h : pJ1_charAt_3b067 i0 x1 = some res) : gMi yJ1_charAt_3b067 (.code yJ1_charAt_3b067 cJ1_charAt_3b067 2 (some .char) :: gU) ({ frames := 6, cells := 0, slots := 0, locals := 193 } : Room) 0 0 E [.ref (gV E i0), .int x1] ws (fun v w => v = res ∧ w = ws) := by
  refine g_met_i (by decide +kernel) (Nat.le_of_ble_eq_true rfl) (fun Γ K hn hE hRm _ hret => ?_)
  subst hE
  have hlt : ∀ i, i < 2 → i < g_n Γ := fun i q => by rw [hn]; exact q
  refine g_sub (L' := [(0, .ref (gV (g_E Γ) i0)), (1, .int x1)]) [0, 1] rfl ?_
  exact wJ1_charAt_3b067 hi0 K hlt hRm hret x1 h

set_option maxHeartbeats 4000000 in
set_option maxRecDepth 100000 in
theorem wJ0_charAt_5068e {Γ : gT} {ws : va_W} {i0 : Nat} (hi0 : i0 < 7) (K : gOK Γ cJ0_charAt_5068e gU RJ0) (hlt : ∀ i, i < 2 → i < g_n Γ) (hRm : g_R Γ = ({ frames := 7, cells := 0, slots := 0, locals := 214 } : Room)) {res : Int32} (hret : ∀ (pc : Nat) (L : List (Nat × Value)) (v : Int32) (w : va_W), decode cJ0_charAt_5068e pc = .ok (.ireturn, 1) → narrow .char (.int v) = .int v → (v = res ∧ w = ws) → gGO Γ 0 0 pc L [.int v] w) (x1 : Int32) (h : pJ0_charAt_5068e i0 x1 = some res) : gGO Γ 0 0 0 [(0, .ref (gK (g_E Γ) i0)), (1, .int x1)] [] (ws) := by
    unfold pJ0_charAt_5068e at h
    refine g_aload_n K dJ0_charAt_5068e_0 rfl 0 rfl ?_
    obtain ⟨z_1, hz_1, h⟩ := gi_bd h
    refine g_callViK (As := []) (bytes := cJ0_isLatin1_aae02) (maxL := 1) (ret := (some .boolean)) K (ctJ0_isLatin1_aae02 (ws := ws) hi0 (res := z_1) hz_1) gc_V_RJ0_492_J0_isLatin1_aae02 rfl qv_J0_isLatin1_aae02 hi0 hRm rfl rfl rfl (by decide) (Nat.le_of_ble_eq_true rfl) (by decide) dJ0_charAt_5068e_1 (fun v w hw => ?_)
    obtain ⟨hv9, hw9⟩ := hw; have hv9 := hv9.symm; subst hv9; have hw9 := hw9.symm; subst hw9
    obtain ⟨ht9, hf9⟩ := gi_br h; clear h
    refine g_if_eq (tgt := 16) K dJ0_charAt_5068e_4 (by decide) (fun qh => ?_) (fun qh => ?_)
    · have h := ht9 qh; clear ht9 hf9
      cases h
    · have h := hf9 qh; clear ht9 hf9
      refine g_aload_n K dJ0_charAt_5068e_7 rfl 0 rfl ?_
      refine g_sval K hi0 u_1390 dJ0_charAt_5068e_8 ?_
      refine g_iload_n K dJ0_charAt_5068e_11 rfl 1 rfl ?_
      obtain ⟨z_2, hz_2, h⟩ := gi_bd h
      refine g_callSi (As := [.ref (gV (g_E Γ) i0), .int x1]) (bytes := cJ1_charAt_3b067) (maxL := 2) (ret := (some .char)) K (ctJ1_charAt_3b067 (ws := ws) hi0 x1 (res := z_2) hz_2) gc_S_RJ0_495_J1_charAt_3b067 rfl qs_J1_charAt_3b067 hRm rfl rfl rfl (by decide) (Nat.le_of_ble_eq_true rfl) (by decide) dJ0_charAt_5068e_12 (fun v w hw => ?_)
      obtain ⟨hv9, hw9⟩ := hw; have hv9 := hv9.symm; subst hv9; have hw9 := hw9.symm; subst hw9
      obtain ⟨c_3, h⟩ := gi_none h
      obtain rfl := Option.some.inj h
      exact hret _ _ _ _ dJ0_charAt_5068e_15 (gnarr_nar c_3) ⟨rfl, rfl⟩

set_option maxRecDepth 100000 in
theorem ctJ0_charAt_5068e {E : gE} {ws : va_W} {i0 : Nat} (hi0 : i0 < 7) (x1 : Int32) {res : Int32} (h : pJ0_charAt_5068e i0 x1 = some res) : gMi yJ0_charAt_5068e (.code yJ0_charAt_5068e cJ0_charAt_5068e 2 (some .char) :: gU) ({ frames := 7, cells := 0, slots := 0, locals := 214 } : Room) 0 0 E [.ref (gK E i0), .int x1] ws (fun v w => v = res ∧ w = ws) := by
  refine g_met_i (by decide +kernel) (Nat.le_of_ble_eq_true rfl) (fun Γ K hn hE hRm _ hret => ?_)
  subst hE
  have hlt : ∀ i, i < 2 → i < g_n Γ := fun i q => by rw [hn]; exact q
  refine g_sub (L' := [(0, .ref (gK (g_E Γ) i0)), (1, .int x1)]) [0, 1] rfl ?_
  exact wJ0_charAt_5068e hi0 K hlt hRm hret x1 h

set_option maxHeartbeats 4000000 in
set_option maxRecDepth 100000 in
theorem wJ1_canEncode_9a6ad {Γ : gT} {ws : va_W} (K : gOK Γ cJ1_canEncode_9a6ad gU RJ1) (hlt : ∀ i, i < 1 → i < g_n Γ) (hRm : g_R Γ = ({ frames := 4, cells := 0, slots := 0, locals := 150 } : Room)) {res : Int32} (hret : ∀ (pc : Nat) (L : List (Nat × Value)) (v : Int32) (w : va_W), decode cJ1_canEncode_9a6ad pc = .ok (.ireturn, 1) → narrow .boolean (.int v) = .int v → (v = res ∧ w = ws) → gGO Γ 0 0 pc L [.int v] w) (x0 : Int32) (h : pJ1_canEncode_9a6ad x0 = some res) : gGO Γ 0 0 0 [(0, .int x0)] [] (ws) := by
    unfold pJ1_canEncode_9a6ad at h
    refine g_iload_n K dJ1_canEncode_9a6ad_0 rfl 0 rfl ?_
    obtain ⟨ht9, hf9⟩ := gi_br h; clear h
    refine g_if_lt (tgt := 15) K dJ1_canEncode_9a6ad_1 (by decide) (fun qh => ?_) (fun qh => ?_)
    · have h := ht9 qh; clear ht9 hf9
      refine g_iconst (v := 0) K dJ1_canEncode_9a6ad_15 (by decide) ?_
      obtain rfl := Option.some.inj h
      exact hret _ _ _ _ dJ1_canEncode_9a6ad_16 (by decide) ⟨rfl, rfl⟩
    · have h := hf9 qh; clear ht9 hf9
      refine g_iload_n K dJ1_canEncode_9a6ad_4 rfl 0 rfl ?_
      refine g_sipush (v := 255) K dJ1_canEncode_9a6ad_5 (by decide) ?_
      obtain ⟨ht9, hf9⟩ := gi_br h; clear h
      refine g_icmp_gt (tgt := 15) K dJ1_canEncode_9a6ad_8 (by decide) (fun qh => ?_) (fun qh => ?_)
      · have h := ht9 qh; clear ht9 hf9
        refine g_iconst (v := 0) K dJ1_canEncode_9a6ad_15 (by decide) ?_
        obtain rfl := Option.some.inj h
        exact hret _ _ _ _ dJ1_canEncode_9a6ad_16 (by decide) ⟨rfl, rfl⟩
      · have h := hf9 qh; clear ht9 hf9
        refine g_iconst (v := 1) K dJ1_canEncode_9a6ad_11 (by decide) ?_
        refine g_goto (tgt := 16) K dJ1_canEncode_9a6ad_12 (by decide) ?_
        obtain rfl := Option.some.inj h
        exact hret _ _ _ _ dJ1_canEncode_9a6ad_16 (by decide) ⟨rfl, rfl⟩

set_option maxRecDepth 100000 in
theorem ctJ1_canEncode_9a6ad {E : gE} {ws : va_W} (x0 : Int32) {res : Int32} (h : pJ1_canEncode_9a6ad x0 = some res) : gMi yJ1_canEncode_9a6ad (.code yJ1_canEncode_9a6ad cJ1_canEncode_9a6ad 1 (some .boolean) :: gU) ({ frames := 4, cells := 0, slots := 0, locals := 150 } : Room) 0 0 E [.int x0] ws (fun v w => v = res ∧ w = ws) := by
  refine g_met_i (by decide +kernel) (Nat.le_of_ble_eq_true rfl) (fun Γ K hn hE hRm _ hret => ?_)
  subst hE
  have hlt : ∀ i, i < 1 → i < g_n Γ := fun i q => by rw [hn]; exact q
  refine g_sub (L' := [(0, .int x0)]) [0] rfl ?_
  exact wJ1_canEncode_9a6ad K hlt hRm hret x0 h

set_option maxHeartbeats 4000000 in
set_option maxRecDepth 100000 in
theorem wJ1_indexOfChar_4cfef_7 {Γ : gT} {ws : va_W} {i0 : Nat} (hi0 : i0 < 7) (K : gOK Γ cJ1_indexOfChar_4cfef gU RJ1) (hlt : ∀ i, i < 6 → i < g_n Γ) (hRm : g_R Γ = ({ frames := 4, cells := 0, slots := 0, locals := 150 } : Room)) {res : Int32} (hret : ∀ (pc : Nat) (L : List (Nat × Value)) (v : Int32) (w : va_W), decode cJ1_indexOfChar_4cfef pc = .ok (.ireturn, 1) → narrow .int (.int v) = .int v → (v = res ∧ w = ws) → gGO Γ 0 0 pc L [.int v] w) : ∀ (n : Nat) (x3 : Int32) (x4 : Int32) (x5 : Int32), pJ1_indexOfChar_4cfef_7 i0 n x3 x4 x5 = some res → gGO Γ 0 0 7 [(0, .ref (gV (g_E Γ) i0)), (3, .int x3), (4, .int x4), (5, .int x5)] [] (ws) := by
  intro n
  induction n with
  | zero => intro _ _ _ h; cases h
  | succ n ih =>
    intro x3 x4 x5 h
    simp only [pJ1_indexOfChar_4cfef_7] at h
    refine g_iload K dJ1_indexOfChar_4cfef_7 3 rfl ?_
    refine g_iload_n K dJ1_indexOfChar_4cfef_9 rfl 1 rfl ?_
    obtain ⟨ht9, hf9⟩ := gi_br h; clear h
    refine g_icmp_ge (tgt := 31) K dJ1_indexOfChar_4cfef_10 (by decide) (fun qh => ?_) (fun qh => ?_)
    · have h := ht9 qh; clear ht9 hf9
      refine g_iconst (v := (-1)) K dJ1_indexOfChar_4cfef_31 (by decide) ?_
      obtain rfl := Option.some.inj h
      exact hret _ _ _ _ dJ1_indexOfChar_4cfef_32 rfl ⟨rfl, rfl⟩
    · have h := hf9 qh; clear ht9 hf9
      refine g_aload_n K dJ1_indexOfChar_4cfef_13 rfl 0 rfl ?_
      refine g_iload K dJ1_indexOfChar_4cfef_14 3 rfl ?_
      obtain ⟨b_1, h⟩ := gi_none h
      refine g_sbyt K hi0 (ginb_in b_1) dJ1_indexOfChar_4cfef_16 ?_
      refine g_iload K dJ1_indexOfChar_4cfef_17 2 rfl ?_
      obtain ⟨ht9, hf9⟩ := gi_br h; clear h
      refine g_icmp_ne (tgt := 25) K dJ1_indexOfChar_4cfef_19 (by decide) (fun qh => ?_) (fun qh => ?_)
      · have h := hf9 qh; clear ht9 hf9
        refine g_iinc (v := (x5 + 1)) (L' := [(5, .int (x5 + 1)), (0, .ref (gV (g_E Γ) i0)), (3, .int x3), (4, .int x4)]) K dJ1_indexOfChar_4cfef_25 3 rfl rfl (hlt _ (by decide)) rfl ?_
        refine g_goto (tgt := 7) K dJ1_indexOfChar_4cfef_28 (by decide) ?_
        refine g_sub (L' := [(0, .ref (gV (g_E Γ) i0)), (3, .int x3), (4, .int x4), (5, .int (x5 + 1))]) [1, 2, 3, 0] rfl ?_
        exact ih x3 x4 (x5 + 1) h
      · have h := ht9 qh; clear ht9 hf9
        refine g_iload K dJ1_indexOfChar_4cfef_22 3 rfl ?_
        obtain rfl := Option.some.inj h
        exact hret _ _ _ _ dJ1_indexOfChar_4cfef_24 rfl ⟨rfl, rfl⟩

set_option maxHeartbeats 4000000 in
set_option maxRecDepth 100000 in
theorem wJ1_indexOfChar_4cfef {Γ : gT} {ws : va_W} {i0 : Nat} (hi0 : i0 < 7) (K : gOK Γ cJ1_indexOfChar_4cfef gU RJ1) (hlt : ∀ i, i < 6 → i < g_n Γ) (hRm : g_R Γ = ({ frames := 4, cells := 0, slots := 0, locals := 150 } : Room)) {res : Int32} (hret : ∀ (pc : Nat) (L : List (Nat × Value)) (v : Int32) (w : va_W), decode cJ1_indexOfChar_4cfef pc = .ok (.ireturn, 1) → narrow .int (.int v) = .int v → (v = res ∧ w = ws) → gGO Γ 0 0 pc L [.int v] w) (x1 : Int32) (x2 : Int32) (x3 : Int32) (h : pJ1_indexOfChar_4cfef i0 x1 x2 x3 = some res) : gGO Γ 0 0 0 [(0, .ref (gV (g_E Γ) i0)), (1, .int x1), (2, .int x2), (3, .int x3)] [] (ws) := by
    unfold pJ1_indexOfChar_4cfef at h
    refine g_iload_n K dJ1_indexOfChar_4cfef_0 rfl 1 rfl ?_
    refine g_i2b K dJ1_indexOfChar_4cfef_1 ?_
    obtain ⟨v_1, ev_1, h⟩ := gi_nm h
    refine g_topi ev_1 ?_
    refine g_istore (L' := [(4, .int v_1), (0, .ref (gV (g_E Γ) i0)), (1, .int x1), (2, .int x2), (3, .int x3)]) K dJ1_indexOfChar_4cfef_2 (hlt _ (by decide)) rfl ?_
    refine g_iload_n K dJ1_indexOfChar_4cfef_4 rfl 3 rfl ?_
    refine g_istore (L' := [(5, .int x2), (4, .int v_1), (0, .ref (gV (g_E Γ) i0)), (1, .int x1), (2, .int x2), (3, .int x3)]) K dJ1_indexOfChar_4cfef_5 (hlt _ (by decide)) rfl ?_
    refine g_sub (L' := [(0, .ref (gV (g_E Γ) i0)), (3, .int x3), (4, .int v_1), (5, .int x2)]) [2, 5, 1, 0] rfl ?_
    exact wJ1_indexOfChar_4cfef_7 hi0 K hlt hRm hret 1000 x3 v_1 x2 h

set_option maxRecDepth 100000 in
theorem ctJ1_indexOfChar_4cfef {E : gE} {ws : va_W} {i0 : Nat} (hi0 : i0 < 7) (x1 : Int32) (x2 : Int32) (x3 : Int32) {res : Int32} (h : pJ1_indexOfChar_4cfef i0 x1 x2 x3 = some res) : gMi yJ1_indexOfChar_4cfef (.code yJ1_indexOfChar_4cfef cJ1_indexOfChar_4cfef 6 (some .int) :: gU) ({ frames := 4, cells := 0, slots := 0, locals := 150 } : Room) 0 0 E [.ref (gV E i0), .int x1, .int x2, .int x3] ws (fun v w => v = res ∧ w = ws) := by
  refine g_met_i (by decide +kernel) (Nat.le_of_ble_eq_true rfl) (fun Γ K hn hE hRm _ hret => ?_)
  subst hE
  have hlt : ∀ i, i < 6 → i < g_n Γ := fun i q => by rw [hn]; exact q
  refine g_sub (L' := [(0, .ref (gV (g_E Γ) i0)), (1, .int x1), (2, .int x2), (3, .int x3)]) [0, 1, 2, 3] rfl ?_
  exact wJ1_indexOfChar_4cfef hi0 K hlt hRm hret x1 x2 x3 h

set_option maxHeartbeats 4000000 in
set_option maxRecDepth 100000 in
theorem wJ1_indexOf_4cfef {Γ : gT} {ws : va_W} {i0 : Nat} (hi0 : i0 < 7) (K : gOK Γ cJ1_indexOf_4cfef gU RJ1) (hlt : ∀ i, i < 4 → i < g_n Γ) (hRm : g_R Γ = ({ frames := 5, cells := 0, slots := 0, locals := 175 } : Room)) {res : Int32} (hret : ∀ (pc : Nat) (L : List (Nat × Value)) (v : Int32) (w : va_W), decode cJ1_indexOf_4cfef pc = .ok (.ireturn, 1) → narrow .int (.int v) = .int v → (v = res ∧ w = ws) → gGO Γ 0 0 pc L [.int v] w) (x1 : Int32) (x2 : Int32) (x3 : Int32) (h : pJ1_indexOf_4cfef i0 x1 x2 x3 = some res) : gGO Γ 0 0 0 [(0, .ref (gV (g_E Γ) i0)), (1, .int x1), (2, .int x2), (3, .int x3)] [] (ws) := by
    unfold pJ1_indexOf_4cfef at h
    refine g_iload_n K dJ1_indexOf_4cfef_0 rfl 1 rfl ?_
    obtain ⟨z_1, hz_1, h⟩ := gi_bd h
    refine g_callSi (As := [.int x1]) (bytes := cJ1_canEncode_9a6ad) (maxL := 1) (ret := (some .boolean)) K (ctJ1_canEncode_9a6ad (ws := ws) x1 (res := z_1) hz_1) gc_S_RJ1_88_J1_canEncode_9a6ad rfl qs_J1_canEncode_9a6ad hRm rfl rfl rfl (by decide) (Nat.le_of_ble_eq_true rfl) (by decide) dJ1_indexOf_4cfef_1 (fun v w hw => ?_)
    obtain ⟨hv9, hw9⟩ := hw; have hv9 := hv9.symm; subst hv9; have hw9 := hw9.symm; subst hw9
    obtain ⟨ht9, hf9⟩ := gi_br h; clear h
    refine g_if_ne (tgt := 9) K dJ1_indexOf_4cfef_4 (by decide) (fun qh => ?_) (fun qh => ?_)
    · have h := hf9 qh; clear ht9 hf9
      refine g_iload_n K dJ1_indexOf_4cfef_9 rfl 2 rfl ?_
      refine g_iconst (v := 0) K dJ1_indexOf_4cfef_10 (by decide) ?_
      refine g_mmax K u_457 u_115 u_71 u_116 hRm ⟨by decide, Nat.le_of_ble_eq_true rfl, by decide, by decide⟩ dJ1_indexOf_4cfef_11 ?_
      obtain ⟨v_2, ev_2, h⟩ := gi_nm h
      refine g_topi ev_2 ?_
      refine g_istore_n (L' := [(2, .int v_2), (0, .ref (gV (g_E Γ) i0)), (1, .int x1), (3, .int x3)]) K dJ1_indexOf_4cfef_14 rfl (hlt _ (by decide)) rfl ?_
      refine g_iload_n K dJ1_indexOf_4cfef_15 rfl 3 rfl ?_
      refine g_aload_n K dJ1_indexOf_4cfef_16 rfl 1 rfl ?_
      refine g_slen K hi0 dJ1_indexOf_4cfef_17 ?_
      refine g_mmin K u_458 u_112 u_71 u_113 hRm ⟨by decide, Nat.le_of_ble_eq_true rfl, by decide, by decide⟩ dJ1_indexOf_4cfef_18 ?_
      obtain ⟨v_3, ev_3, h⟩ := gi_nm h
      refine g_topi ev_3 ?_
      refine g_istore_n (L' := [(3, .int v_3), (2, .int v_2), (0, .ref (gV (g_E Γ) i0)), (1, .int x1)]) K dJ1_indexOf_4cfef_21 rfl (hlt _ (by decide)) rfl ?_
      refine g_iload_n K dJ1_indexOf_4cfef_22 rfl 1 rfl ?_
      refine g_iload_n K dJ1_indexOf_4cfef_23 rfl 0 rfl ?_
      obtain ⟨ht9, hf9⟩ := gi_br h; clear h
      refine g_icmp_lt (tgt := 29) K dJ1_indexOf_4cfef_24 (by decide) (fun qh => ?_) (fun qh => ?_)
      · have h := ht9 qh; clear ht9 hf9
        refine g_aload_n K dJ1_indexOf_4cfef_29 rfl 2 rfl ?_
        refine g_iload_n K dJ1_indexOf_4cfef_30 rfl 3 rfl ?_
        refine g_iload_n K dJ1_indexOf_4cfef_31 rfl 1 rfl ?_
        refine g_iload_n K dJ1_indexOf_4cfef_32 rfl 0 rfl ?_
        obtain ⟨z_4, hz_4, h⟩ := gi_bd h
        refine g_callSi (As := [.ref (gV (g_E Γ) i0), .int x1, .int v_2, .int v_3]) (bytes := cJ1_indexOfChar_4cfef) (maxL := 6) (ret := (some .int)) K (ctJ1_indexOfChar_4cfef (ws := ws) hi0 x1 v_2 v_3 (res := z_4) hz_4) gc_S_RJ1_95_J1_indexOfChar_4cfef rfl qs_J1_indexOfChar_4cfef hRm rfl rfl rfl (by decide) (Nat.le_of_ble_eq_true rfl) (by decide) dJ1_indexOf_4cfef_33 (fun v w hw => ?_)
        obtain ⟨hv9, hw9⟩ := hw; have hv9 := hv9.symm; subst hv9; have hw9 := hw9.symm; subst hw9
        obtain rfl := Option.some.inj h
        exact hret _ _ _ _ dJ1_indexOf_4cfef_36 rfl ⟨rfl, rfl⟩
      · have h := hf9 qh; clear ht9 hf9
        refine g_iconst (v := (-1)) K dJ1_indexOf_4cfef_27 (by decide) ?_
        obtain rfl := Option.some.inj h
        exact hret _ _ _ _ dJ1_indexOf_4cfef_28 rfl ⟨rfl, rfl⟩
    · have h := ht9 qh; clear ht9 hf9
      refine g_iconst (v := (-1)) K dJ1_indexOf_4cfef_7 (by decide) ?_
      obtain rfl := Option.some.inj h
      exact hret _ _ _ _ dJ1_indexOf_4cfef_8 rfl ⟨rfl, rfl⟩

set_option maxRecDepth 100000 in
theorem ctJ1_indexOf_4cfef {E : gE} {ws : va_W} {i0 : Nat} (hi0 : i0 < 7) (x1 : Int32) (x2 : Int32) (x3 : Int32) {res : Int32} (h : pJ1_indexOf_4cfef i0 x1 x2 x3 = some res) : gMi yJ1_indexOf_4cfef (.code yJ1_indexOf_4cfef cJ1_indexOf_4cfef 4 (some .int) :: gU) ({ frames := 5, cells := 0, slots := 0, locals := 175 } : Room) 0 0 E [.ref (gV E i0), .int x1, .int x2, .int x3] ws (fun v w => v = res ∧ w = ws) := by
  refine g_met_i (by decide +kernel) (Nat.le_of_ble_eq_true rfl) (fun Γ K hn hE hRm _ hret => ?_)
  subst hE
  have hlt : ∀ i, i < 4 → i < g_n Γ := fun i q => by rw [hn]; exact q
  refine g_sub (L' := [(0, .ref (gV (g_E Γ) i0)), (1, .int x1), (2, .int x2), (3, .int x3)]) [0, 1, 2, 3] rfl ?_
  exact wJ1_indexOf_4cfef hi0 K hlt hRm hret x1 x2 x3 h

set_option maxHeartbeats 4000000 in
set_option maxRecDepth 100000 in
theorem wJ0_indexOf_7cf53 {Γ : gT} {ws : va_W} {i0 : Nat} (hi0 : i0 < 7) (K : gOK Γ cJ0_indexOf_7cf53 gU RJ0) (hlt : ∀ i, i < 3 → i < g_n Γ) (hRm : g_R Γ = ({ frames := 6, cells := 0, slots := 0, locals := 198 } : Room)) {res : Int32} (hret : ∀ (pc : Nat) (L : List (Nat × Value)) (v : Int32) (w : va_W), decode cJ0_indexOf_7cf53 pc = .ok (.ireturn, 1) → narrow .int (.int v) = .int v → (v = res ∧ w = ws) → gGO Γ 0 0 pc L [.int v] w) (x1 : Int32) (x2 : Int32) (h : pJ0_indexOf_7cf53 i0 x1 x2 = some res) : gGO Γ 0 0 0 [(0, .ref (gK (g_E Γ) i0)), (1, .int x1), (2, .int x2)] [] (ws) := by
    unfold pJ0_indexOf_7cf53 at h
    refine g_aload_n K dJ0_indexOf_7cf53_0 rfl 0 rfl ?_
    obtain ⟨z_1, hz_1, h⟩ := gi_bd h
    refine g_callViK (As := []) (bytes := cJ0_isLatin1_aae02) (maxL := 1) (ret := (some .boolean)) K (ctJ0_isLatin1_aae02 (ws := ws) hi0 (res := z_1) hz_1) gc_V_RJ0_492_J0_isLatin1_aae02 rfl qv_J0_isLatin1_aae02 hi0 hRm rfl rfl rfl (by decide) (Nat.le_of_ble_eq_true rfl) (by decide) dJ0_indexOf_7cf53_1 (fun v w hw => ?_)
    obtain ⟨hv9, hw9⟩ := hw; have hv9 := hv9.symm; subst hv9; have hw9 := hw9.symm; subst hw9
    obtain ⟨ht9, hf9⟩ := gi_br h; clear h
    refine g_if_eq (tgt := 23) K dJ0_indexOf_7cf53_4 (by decide) (fun qh => ?_) (fun qh => ?_)
    · have h := ht9 qh; clear ht9 hf9
      cases h
    · have h := hf9 qh; clear ht9 hf9
      refine g_aload_n K dJ0_indexOf_7cf53_7 rfl 0 rfl ?_
      refine g_sval K hi0 u_1390 dJ0_indexOf_7cf53_8 ?_
      refine g_iload_n K dJ0_indexOf_7cf53_11 rfl 1 rfl ?_
      refine g_iload_n K dJ0_indexOf_7cf53_12 rfl 2 rfl ?_
      refine g_aload_n K dJ0_indexOf_7cf53_13 rfl 0 rfl ?_
      obtain ⟨z_2, hz_2, h⟩ := gi_bd h
      refine g_callViK (As := []) (bytes := cJ0_length_8abf5) (maxL := 1) (ret := (some .int)) K (ctJ0_length_8abf5 (ws := ws) hi0 (res := z_2) hz_2) gc_V_RJ0_505_J0_length_8abf5 rfl qv_J0_length_8abf5 hi0 hRm rfl rfl rfl (by decide) (Nat.le_of_ble_eq_true rfl) (by decide) dJ0_indexOf_7cf53_14 (fun v w hw => ?_)
      obtain ⟨hv9, hw9⟩ := hw; have hv9 := hv9.symm; subst hv9; have hw9 := hw9.symm; subst hw9
      obtain ⟨z_3, hz_3, h⟩ := gi_bd h
      refine g_callSi (As := [.ref (gV (g_E Γ) i0), .int x1, .int x2, .int z_2]) (bytes := cJ1_indexOf_4cfef) (maxL := 4) (ret := (some .int)) K (ctJ1_indexOf_4cfef (ws := ws) hi0 x1 x2 z_2 (res := z_3) hz_3) gc_S_RJ0_637_J1_indexOf_4cfef rfl qs_J1_indexOf_4cfef hRm rfl rfl rfl (by decide) (Nat.le_of_ble_eq_true rfl) (by decide) dJ0_indexOf_7cf53_17 (fun v w hw => ?_)
      obtain ⟨hv9, hw9⟩ := hw; have hv9 := hv9.symm; subst hv9; have hw9 := hw9.symm; subst hw9
      refine g_goto (tgt := 36) K dJ0_indexOf_7cf53_20 (by decide) ?_
      obtain rfl := Option.some.inj h
      exact hret _ _ _ _ dJ0_indexOf_7cf53_36 rfl ⟨rfl, rfl⟩

set_option maxRecDepth 100000 in
theorem ctJ0_indexOf_7cf53 {E : gE} {ws : va_W} {i0 : Nat} (hi0 : i0 < 7) (x1 : Int32) (x2 : Int32) {res : Int32} (h : pJ0_indexOf_7cf53 i0 x1 x2 = some res) : gMi yJ0_indexOf_7cf53 (.code yJ0_indexOf_7cf53 cJ0_indexOf_7cf53 3 (some .int) :: gU) ({ frames := 6, cells := 0, slots := 0, locals := 198 } : Room) 0 0 E [.ref (gK E i0), .int x1, .int x2] ws (fun v w => v = res ∧ w = ws) := by
  refine g_met_i (by decide +kernel) (Nat.le_of_ble_eq_true rfl) (fun Γ K hn hE hRm _ hret => ?_)
  subst hE
  have hlt : ∀ i, i < 3 → i < g_n Γ := fun i q => by rw [hn]; exact q
  refine g_sub (L' := [(0, .ref (gK (g_E Γ) i0)), (1, .int x1), (2, .int x2)]) [0, 1, 2] rfl ?_
  exact wJ0_indexOf_7cf53 hi0 K hlt hRm hret x1 x2 h

set_option maxHeartbeats 4000000 in
set_option maxRecDepth 100000 in
theorem wJ0_indexOf_0f7a4 {Γ : gT} {ws : va_W} {i0 : Nat} (hi0 : i0 < 7) (K : gOK Γ cJ0_indexOf_0f7a4 gU RJ0) (hlt : ∀ i, i < 2 → i < g_n Γ) (hRm : g_R Γ = ({ frames := 7, cells := 0, slots := 0, locals := 220 } : Room)) {res : Int32} (hret : ∀ (pc : Nat) (L : List (Nat × Value)) (v : Int32) (w : va_W), decode cJ0_indexOf_0f7a4 pc = .ok (.ireturn, 1) → narrow .int (.int v) = .int v → (v = res ∧ w = ws) → gGO Γ 0 0 pc L [.int v] w) (x1 : Int32) (h : pJ0_indexOf_0f7a4 i0 x1 = some res) : gGO Γ 0 0 0 [(0, .ref (gK (g_E Γ) i0)), (1, .int x1)] [] (ws) := by
    unfold pJ0_indexOf_0f7a4 at h
    refine g_aload_n K dJ0_indexOf_0f7a4_0 rfl 0 rfl ?_
    refine g_iload_n K dJ0_indexOf_0f7a4_1 rfl 1 rfl ?_
    refine g_iconst (v := 0) K dJ0_indexOf_0f7a4_2 (by decide) ?_
    obtain ⟨z_1, hz_1, h⟩ := gi_bd h
    refine g_callViK (As := [.int x1, .int 0]) (bytes := cJ0_indexOf_7cf53) (maxL := 3) (ret := (some .int)) K (ctJ0_indexOf_7cf53 (ws := ws) hi0 x1 0 (res := z_1) hz_1) gc_V_RJ0_633_J0_indexOf_7cf53 rfl qv_J0_indexOf_7cf53 hi0 hRm rfl rfl rfl (by decide) (Nat.le_of_ble_eq_true rfl) (by decide) dJ0_indexOf_0f7a4_3 (fun v w hw => ?_)
    obtain ⟨hv9, hw9⟩ := hw; have hv9 := hv9.symm; subst hv9; have hw9 := hw9.symm; subst hw9
    obtain rfl := Option.some.inj h
    exact hret _ _ _ _ dJ0_indexOf_0f7a4_6 rfl ⟨rfl, rfl⟩

set_option maxRecDepth 100000 in
theorem ctJ0_indexOf_0f7a4 {E : gE} {ws : va_W} {i0 : Nat} (hi0 : i0 < 7) (x1 : Int32) {res : Int32} (h : pJ0_indexOf_0f7a4 i0 x1 = some res) : gMi yJ0_indexOf_0f7a4 (.code yJ0_indexOf_0f7a4 cJ0_indexOf_0f7a4 2 (some .int) :: gU) ({ frames := 7, cells := 0, slots := 0, locals := 220 } : Room) 0 0 E [.ref (gK E i0), .int x1] ws (fun v w => v = res ∧ w = ws) := by
  refine g_met_i (by decide +kernel) (Nat.le_of_ble_eq_true rfl) (fun Γ K hn hE hRm _ hret => ?_)
  subst hE
  have hlt : ∀ i, i < 2 → i < g_n Γ := fun i q => by rw [hn]; exact q
  refine g_sub (L' := [(0, .ref (gK (g_E Γ) i0)), (1, .int x1)]) [0, 1] rfl ?_
  exact wJ0_indexOf_0f7a4 hi0 K hlt hRm hret x1 h
