/-! THE LAW's loop: what stays between its calls, its cases; written by wip/whole/mach/law.py -/
def LI (E : gE) (q : Nat → Nat) (r : Nat → Nat → Nat) (m : Nat) (rm : Nat → Nat) (ws : va_W) : Prop := ∃ (F : gF) (fl : va_W) (o0 : Nat → Int32) (A0 : Nat → Nat → Int32) (C0 : Nat → Option Nat) (h0 : Nat) (o1 : Nat → Int32) (A1 : Nat → Nat → Int32) (C1 : Nat → Option Nat) (h1 : Nat) (o2 : Nat → Int32) (A2 : Nat → Nat → Int32) (C2 : Nat → Option Nat) (h2 : Nat) (gs : Int32) (gA : Nat → Nat → Int32) (tb : Int32) (tA bf : Nat → Int32) (hi : Int32) (o : Nat → Int32) (A : Nat → Nat → Int32), ws = cw E q r (gpl F) o0 A0 C0 h0 o1 A1 C1 h1 o2 A2 C2 h2 gs gA tb tA bf hi ++ (fl ++ mw E m rm o A) ∧ gFz (gExt E fl) F ∧ PLF F ∧ SW F o0 A0 C0 h0 (A 1) ∧ (hi = 0 ∨ hi = 1) ∧ (hi = 1 → SW F o2 A2 C2 h2 (A 2)) ∧ o 4 = hi ∧ TR tb tA (o 18) (A 17)
def LK (Γ : gT) (b L : Nat) (xs : Nat → Int32) : Prop := gOK Γ code gU "ChiefGradesLaw" ∧ g_R Γ = room_1 ∧ g_n Γ = 4 ∧ (∀ a, gfz (g_E Γ) a = none) ∧ va_X b L xs (g_s Γ) (g_s Γ).heap ∧ b < (g_s Γ).heap.size ∧ ¬ g_A Γ b ∧ L ≤ 384
theorem cw_ext {E : gE} {fl : va_W} {q : Nat → Nat} {r : Nat → Nat → Nat} {pl : Nat} {o0 : Nat → Int32} {A0 : Nat → Nat → Int32} {C0 : Nat → Option Nat} {h0 : Nat} {o1 : Nat → Int32} {A1 : Nat → Nat → Int32} {C1 : Nat → Option Nat} {h1 : Nat} {o2 : Nat → Int32} {A2 : Nat → Nat → Int32} {C2 : Nat → Option Nat} {h2 : Nat} {gs : Int32} {gA : Nat → Nat → Int32} {tb : Int32} {tA bf : Nat → Int32} {hi : Int32} : cw (gExt E fl) q r pl o0 A0 C0 h0 o1 A1 C1 h1 o2 A2 C2 h2 gs gA tb tA bf hi = cw E q r pl o0 A0 C0 h0 o1 A1 C1 h1 o2 A2 C2 h2 gs gA tb tA bf hi := rfl
theorem mw_ext {E : gE} {fl : va_W} {m : Nat} {r : Nat → Nat} {o : Nat → Int32} {A : Nat → Nat → Int32} : mw (gExt E fl) m r o A = mw E m r o A := rfl
section LR
variable {Γ : gT} {cc : ByteArray} {Ts : List Cond} {own : String} {cl sl pc : Nat} {L' : List (Nat × Value)} {st : List Value} {ws : va_W}
theorem gL_sld {b L : Nat} {xs : Nat → Int32} {j v : Int32} (K : gOK Γ cc Ts own) (hX : va_X b L xs (g_s Γ) (g_s Γ).heap) (hbl : b < (g_s Γ).heap.size) (hbA : ¬ g_A Γ b) (hin : vp_in j L) (hv : xs j.toNatClampNeg = v) (hd : decode cc pc = .ok (.iaload, 1)) (k : gGO Γ cl sl (pc + 1) L' (.int v :: st) ws) : gGO Γ cl sl pc L' (.int j :: .ref b :: st) ws := fun H locs ls hP hD hS h => by
  subst hv
  exact va_sld K.x K.b hX hbl hbA hS hin hd (k H locs ls hP hD hS h)
theorem gL_slen {b L : Nat} {xs : Nat → Int32} (K : gOK Γ cc Ts own) (hX : va_X b L xs (g_s Γ) (g_s Γ).heap) (hbl : b < (g_s Γ).heap.size) (hbA : ¬ g_A Γ b) (hd : decode cc pc = .ok (.arraylength, 1)) (k : gGO Γ cl sl (pc + 1) L' (.int (nI L) :: st) ws) : gGO Γ cl sl pc L' (.ref b :: st) ws := fun H locs ls hP hD hS h => va_slen K.x K.b hX hbl hbA hS hd (k H locs ls hP hD hS h)
theorem g_r3 {X fl M : va_W} (k : gGO Γ cl sl pc L' st (M ++ ([] ++ (X ++ fl)))) : gGO Γ cl sl pc L' st (X ++ (fl ++ M)) := by
  rw [← List.append_assoc]
  exact g_comm k
theorem g_r4 {X fl M : va_W} (k : gGO Γ cl sl pc L' st (X ++ (fl ++ M))) : gGO Γ cl sl pc L' st (M ++ ([] ++ (X ++ fl))) := by
  rw [← List.append_assoc] at k
  exact g_comm k
theorem g_r5 {X N Y : va_W} (k : gGO Γ cl sl pc L' st (X ++ (N ++ Y))) : gGO Γ cl sl pc L' st ((N ++ X) ++ Y) := by
  rw [List.append_assoc]
  exact g_rot k
theorem g_dx {a b : va_W} (k : (∀ p ∈ a, ∀ q ∈ b, p.1 ≠ q.1) → gGO Γ cl sl pc L' st (a ++ b)) : gGO Γ cl sl pc L' st (a ++ b) := fun H locs ls hP hD hS h => k (fun p hp q hq => by
  obtain ⟨i, hi⟩ := List.mem_iff_getElem?.mp hp
  obtain ⟨j, hj⟩ := List.mem_iff_getElem?.mp hq
  exact va_D_x hD i j p q hi hj) H locs ls hP hD hS h
theorem l_in {i L k : Nat} (h : i + 6 ≤ L) (hL : L ≤ 384) (hk : k ≤ 5) : vp_in (nI i + nI k) L := by
  rw [nI_add]
  unfold vp_in
  rw [n_cl (by omega)]
  rintro (z | z)
  · rw [show (0 : Int32) = nI 0 from rfl, n_lt (by omega) (by omega)] at z; omega
  · omega
end LR
theorem l_cmp0 {v : Int64} : lg_cmp v v = 0 := by unfold lg_cmp; simp
theorem u_346 : Cond.methodLink RL 13 yX11_feed ∈ gU := gu_in (List.mem_of_getElem? (i := 346) (by decide +kernel)) rfl
theorem u_347 : Cond.instanceMethod yX11_feed ∈ gU := gu_in (List.mem_of_getElem? (i := 347) (by decide +kernel)) rfl
theorem u_348 : Cond.selects RX11 yX11_feed yX11_feed ∈ gU := gu_in (List.mem_of_getElem? (i := 348) (by decide +kernel)) rfl
theorem u_349 : Cond.code yX11_feed cX11_feed 2 (some .int) ∈ gU := gu_in (List.mem_of_getElem? (i := 349) (by decide +kernel)) rfl
theorem u_1047 : Cond.methodLink RL 17 yX12_feed ∈ gU := gu_in (List.mem_of_getElem? (i := 1047) (by decide +kernel)) rfl
theorem u_1048 : Cond.instanceMethod yX12_feed ∈ gU := gu_in (List.mem_of_getElem? (i := 1048) (by decide +kernel)) rfl
theorem u_1049 : Cond.selects RX12 yX12_feed yX12_feed ∈ gU := gu_in (List.mem_of_getElem? (i := 1049) (by decide +kernel)) rfl
theorem u_1050 : Cond.code yX12_feed cX12_feed 2 (some .int) ∈ gU := gu_in (List.mem_of_getElem? (i := 1050) (by decide +kernel)) rfl
theorem u_510 : Cond.methodLink RL 23 yX11_told ∈ gU := gu_in (List.mem_of_getElem? (i := 510) (by decide +kernel)) rfl
theorem u_511 : Cond.instanceMethod yX11_told ∈ gU := gu_in (List.mem_of_getElem? (i := 511) (by decide +kernel)) rfl
theorem u_512 : Cond.selects RX11 yX11_told yX11_told ∈ gU := gu_in (List.mem_of_getElem? (i := 512) (by decide +kernel)) rfl
theorem u_513 : Cond.code yX11_told cX11_told 2 (some .int) ∈ gU := gu_in (List.mem_of_getElem? (i := 513) (by decide +kernel)) rfl
theorem u_1115 : Cond.methodLink RL 26 yX12_told ∈ gU := gu_in (List.mem_of_getElem? (i := 1115) (by decide +kernel)) rfl
theorem u_592 : Cond.methodLink RL 32 yX11_worker ∈ gU := gu_in (List.mem_of_getElem? (i := 592) (by decide +kernel)) rfl
theorem u_593 : Cond.instanceMethod yX11_worker ∈ gU := gu_in (List.mem_of_getElem? (i := 593) (by decide +kernel)) rfl
theorem u_594 : Cond.selects RX11 yX11_worker yX11_worker ∈ gU := gu_in (List.mem_of_getElem? (i := 594) (by decide +kernel)) rfl
theorem u_595 : Cond.code yX11_worker cX11_worker 6 (some .int) ∈ gU := gu_in (List.mem_of_getElem? (i := 595) (by decide +kernel)) rfl
theorem u_1127 : Cond.methodLink RL 36 yX12_worker ∈ gU := gu_in (List.mem_of_getElem? (i := 1127) (by decide +kernel)) rfl
theorem u_1128 : Cond.instanceMethod yX12_worker ∈ gU := gu_in (List.mem_of_getElem? (i := 1128) (by decide +kernel)) rfl
theorem u_1129 : Cond.selects RX12 yX12_worker yX12_worker ∈ gU := gu_in (List.mem_of_getElem? (i := 1129) (by decide +kernel)) rfl
theorem u_1130 : Cond.code yX12_worker cX12_worker 6 (some .int) ∈ gU := gu_in (List.mem_of_getElem? (i := 1130) (by decide +kernel)) rfl
theorem u_600 : Cond.methodLink RL 37 yX11_of ∈ gU := gu_in (List.mem_of_getElem? (i := 600) (by decide +kernel)) rfl
theorem u_601 : Cond.instanceMethod yX11_of ∈ gU := gu_in (List.mem_of_getElem? (i := 601) (by decide +kernel)) rfl
theorem u_602 : Cond.selects RX11 yX11_of yX11_of ∈ gU := gu_in (List.mem_of_getElem? (i := 602) (by decide +kernel)) rfl
theorem u_603 : Cond.code yX11_of cX11_of 3 (some .int) ∈ gU := gu_in (List.mem_of_getElem? (i := 603) (by decide +kernel)) rfl
theorem u_1159 : Cond.methodLink RL 41 yX12_of ∈ gU := gu_in (List.mem_of_getElem? (i := 1159) (by decide +kernel)) rfl
theorem u_1160 : Cond.instanceMethod yX12_of ∈ gU := gu_in (List.mem_of_getElem? (i := 1160) (by decide +kernel)) rfl
theorem u_1161 : Cond.selects RX12 yX12_of yX12_of ∈ gU := gu_in (List.mem_of_getElem? (i := 1161) (by decide +kernel)) rfl
theorem u_1162 : Cond.code yX12_of cX12_of 3 (some .int) ∈ gU := gu_in (List.mem_of_getElem? (i := 1162) (by decide +kernel)) rfl
theorem u_723 : Cond.methodLink RL 42 yX11_by ∈ gU := gu_in (List.mem_of_getElem? (i := 723) (by decide +kernel)) rfl
theorem u_724 : Cond.instanceMethod yX11_by ∈ gU := gu_in (List.mem_of_getElem? (i := 724) (by decide +kernel)) rfl
theorem u_725 : Cond.selects RX11 yX11_by yX11_by ∈ gU := gu_in (List.mem_of_getElem? (i := 725) (by decide +kernel)) rfl
theorem u_726 : Cond.code yX11_by cX11_by 4 (some .int) ∈ gU := gu_in (List.mem_of_getElem? (i := 726) (by decide +kernel)) rfl
theorem u_1135 : Cond.methodLink RL 45 yX12_by ∈ gU := gu_in (List.mem_of_getElem? (i := 1135) (by decide +kernel)) rfl
theorem u_1136 : Cond.instanceMethod yX12_by ∈ gU := gu_in (List.mem_of_getElem? (i := 1136) (by decide +kernel)) rfl
theorem u_1137 : Cond.selects RX12 yX12_by yX12_by ∈ gU := gu_in (List.mem_of_getElem? (i := 1137) (by decide +kernel)) rfl
theorem u_1138 : Cond.code yX12_by cX12_by 5 (some .int) ∈ gU := gu_in (List.mem_of_getElem? (i := 1138) (by decide +kernel)) rfl
theorem u_729 : Cond.methodLink RL 46 yX11_move ∈ gU := gu_in (List.mem_of_getElem? (i := 729) (by decide +kernel)) rfl
theorem u_730 : Cond.instanceMethod yX11_move ∈ gU := gu_in (List.mem_of_getElem? (i := 730) (by decide +kernel)) rfl
theorem u_731 : Cond.selects RX11 yX11_move yX11_move ∈ gU := gu_in (List.mem_of_getElem? (i := 731) (by decide +kernel)) rfl
theorem u_732 : Cond.code yX11_move cX11_move 4 (some .int) ∈ gU := gu_in (List.mem_of_getElem? (i := 732) (by decide +kernel)) rfl
theorem u_1143 : Cond.methodLink RL 49 yX12_move ∈ gU := gu_in (List.mem_of_getElem? (i := 1143) (by decide +kernel)) rfl
theorem u_1144 : Cond.instanceMethod yX12_move ∈ gU := gu_in (List.mem_of_getElem? (i := 1144) (by decide +kernel)) rfl
theorem u_1145 : Cond.selects RX12 yX12_move yX12_move ∈ gU := gu_in (List.mem_of_getElem? (i := 1145) (by decide +kernel)) rfl
theorem u_1146 : Cond.code yX12_move cX12_move 4 (some .int) ∈ gU := gu_in (List.mem_of_getElem? (i := 1146) (by decide +kernel)) rfl
theorem u_733 : Cond.methodLink RL 50 yX11_set ∈ gU := gu_in (List.mem_of_getElem? (i := 733) (by decide +kernel)) rfl
theorem u_734 : Cond.instanceMethod yX11_set ∈ gU := gu_in (List.mem_of_getElem? (i := 734) (by decide +kernel)) rfl
theorem u_735 : Cond.selects RX11 yX11_set yX11_set ∈ gU := gu_in (List.mem_of_getElem? (i := 735) (by decide +kernel)) rfl
theorem u_736 : Cond.code yX11_set cX11_set 6 (some .int) ∈ gU := gu_in (List.mem_of_getElem? (i := 736) (by decide +kernel)) rfl
theorem u_1151 : Cond.methodLink RL 53 yX12_set ∈ gU := gu_in (List.mem_of_getElem? (i := 1151) (by decide +kernel)) rfl
theorem u_1152 : Cond.instanceMethod yX12_set ∈ gU := gu_in (List.mem_of_getElem? (i := 1152) (by decide +kernel)) rfl
theorem u_1153 : Cond.selects RX12 yX12_set yX12_set ∈ gU := gu_in (List.mem_of_getElem? (i := 1153) (by decide +kernel)) rfl
theorem u_1154 : Cond.code yX12_set cX12_set 6 (some .int) ∈ gU := gu_in (List.mem_of_getElem? (i := 1154) (by decide +kernel)) rfl
theorem u_737 : Cond.methodLink RL 54 yX11_fresh ∈ gU := gu_in (List.mem_of_getElem? (i := 737) (by decide +kernel)) rfl
theorem u_738 : Cond.instanceMethod yX11_fresh ∈ gU := gu_in (List.mem_of_getElem? (i := 738) (by decide +kernel)) rfl
theorem u_739 : Cond.selects RX11 yX11_fresh yX11_fresh ∈ gU := gu_in (List.mem_of_getElem? (i := 739) (by decide +kernel)) rfl
theorem u_740 : Cond.code yX11_fresh cX11_fresh 4 (some .int) ∈ gU := gu_in (List.mem_of_getElem? (i := 740) (by decide +kernel)) rfl
theorem u_1155 : Cond.methodLink RL 57 yX12_fresh ∈ gU := gu_in (List.mem_of_getElem? (i := 1155) (by decide +kernel)) rfl
theorem u_1156 : Cond.instanceMethod yX12_fresh ∈ gU := gu_in (List.mem_of_getElem? (i := 1156) (by decide +kernel)) rfl
theorem u_1157 : Cond.selects RX12 yX12_fresh yX12_fresh ∈ gU := gu_in (List.mem_of_getElem? (i := 1157) (by decide +kernel)) rfl
theorem u_1158 : Cond.code yX12_fresh cX12_fresh 4 (some .int) ∈ gU := gu_in (List.mem_of_getElem? (i := 1158) (by decide +kernel)) rfl
theorem u_741 : Cond.methodLink RL 58 yX11_mark ∈ gU := gu_in (List.mem_of_getElem? (i := 741) (by decide +kernel)) rfl
theorem u_1222 : Cond.methodLink RL 61 yX12_mark ∈ gU := gu_in (List.mem_of_getElem? (i := 1222) (by decide +kernel)) rfl
theorem u_1223 : Cond.instanceMethod yX12_mark ∈ gU := gu_in (List.mem_of_getElem? (i := 1223) (by decide +kernel)) rfl
theorem u_1224 : Cond.selects RX12 yX12_mark yX12_mark ∈ gU := gu_in (List.mem_of_getElem? (i := 1224) (by decide +kernel)) rfl
theorem u_1225 : Cond.code yX12_mark cX12_mark 3 (some .int) ∈ gU := gu_in (List.mem_of_getElem? (i := 1225) (by decide +kernel)) rfl
theorem u_742 : Cond.methodLink RL 62 yX11_wrong ∈ gU := gu_in (List.mem_of_getElem? (i := 742) (by decide +kernel)) rfl
theorem u_743 : Cond.instanceMethod yX11_wrong ∈ gU := gu_in (List.mem_of_getElem? (i := 743) (by decide +kernel)) rfl
theorem u_744 : Cond.selects RX11 yX11_wrong yX11_wrong ∈ gU := gu_in (List.mem_of_getElem? (i := 744) (by decide +kernel)) rfl
theorem u_745 : Cond.code yX11_wrong cX11_wrong 7 (some .int) ∈ gU := gu_in (List.mem_of_getElem? (i := 745) (by decide +kernel)) rfl
theorem u_1226 : Cond.methodLink RL 65 yX12_wrong ∈ gU := gu_in (List.mem_of_getElem? (i := 1226) (by decide +kernel)) rfl
theorem u_1227 : Cond.instanceMethod yX12_wrong ∈ gU := gu_in (List.mem_of_getElem? (i := 1227) (by decide +kernel)) rfl
theorem u_1228 : Cond.selects RX12 yX12_wrong yX12_wrong ∈ gU := gu_in (List.mem_of_getElem? (i := 1228) (by decide +kernel)) rfl
theorem u_1229 : Cond.code yX12_wrong cX12_wrong 6 (some .int) ∈ gU := gu_in (List.mem_of_getElem? (i := 1229) (by decide +kernel)) rfl
theorem u_753 : Cond.methodLink RL 66 yX11_moved ∈ gU := gu_in (List.mem_of_getElem? (i := 753) (by decide +kernel)) rfl
theorem u_754 : Cond.instanceMethod yX11_moved ∈ gU := gu_in (List.mem_of_getElem? (i := 754) (by decide +kernel)) rfl
theorem u_755 : Cond.selects RX11 yX11_moved yX11_moved ∈ gU := gu_in (List.mem_of_getElem? (i := 755) (by decide +kernel)) rfl
theorem u_756 : Cond.code yX11_moved cX11_moved 4 (some .int) ∈ gU := gu_in (List.mem_of_getElem? (i := 756) (by decide +kernel)) rfl
theorem u_1230 : Cond.methodLink RL 69 yX12_moved ∈ gU := gu_in (List.mem_of_getElem? (i := 1230) (by decide +kernel)) rfl
theorem u_1231 : Cond.instanceMethod yX12_moved ∈ gU := gu_in (List.mem_of_getElem? (i := 1231) (by decide +kernel)) rfl
theorem u_1232 : Cond.selects RX12 yX12_moved yX12_moved ∈ gU := gu_in (List.mem_of_getElem? (i := 1232) (by decide +kernel)) rfl
theorem u_1233 : Cond.code yX12_moved cX12_moved 3 (some .int) ∈ gU := gu_in (List.mem_of_getElem? (i := 1233) (by decide +kernel)) rfl
theorem u_766 : Cond.methodLink RL 70 yX11_best ∈ gU := gu_in (List.mem_of_getElem? (i := 766) (by decide +kernel)) rfl
theorem u_767 : Cond.instanceMethod yX11_best ∈ gU := gu_in (List.mem_of_getElem? (i := 767) (by decide +kernel)) rfl
theorem u_768 : Cond.selects RX11 yX11_best yX11_best ∈ gU := gu_in (List.mem_of_getElem? (i := 768) (by decide +kernel)) rfl
theorem u_769 : Cond.code yX11_best cX11_best 8 (some .int) ∈ gU := gu_in (List.mem_of_getElem? (i := 769) (by decide +kernel)) rfl
theorem u_1238 : Cond.methodLink RL 73 yX12_best ∈ gU := gu_in (List.mem_of_getElem? (i := 1238) (by decide +kernel)) rfl
theorem u_1239 : Cond.instanceMethod yX12_best ∈ gU := gu_in (List.mem_of_getElem? (i := 1239) (by decide +kernel)) rfl
theorem u_1240 : Cond.selects RX12 yX12_best yX12_best ∈ gU := gu_in (List.mem_of_getElem? (i := 1240) (by decide +kernel)) rfl
theorem u_1241 : Cond.code yX12_best cX12_best 7 (some .int) ∈ gU := gu_in (List.mem_of_getElem? (i := 1241) (by decide +kernel)) rfl
theorem u_775 : Cond.methodLink RL 78 yX11_swap ∈ gU := gu_in (List.mem_of_getElem? (i := 775) (by decide +kernel)) rfl
theorem u_776 : Cond.instanceMethod yX11_swap ∈ gU := gu_in (List.mem_of_getElem? (i := 776) (by decide +kernel)) rfl
theorem u_777 : Cond.selects RX11 yX11_swap yX11_swap ∈ gU := gu_in (List.mem_of_getElem? (i := 777) (by decide +kernel)) rfl
theorem u_778 : Cond.code yX11_swap cX11_swap 6 (some .int) ∈ gU := gu_in (List.mem_of_getElem? (i := 778) (by decide +kernel)) rfl
theorem u_1246 : Cond.methodLink RL 81 yX12_swap ∈ gU := gu_in (List.mem_of_getElem? (i := 1246) (by decide +kernel)) rfl
theorem u_1247 : Cond.instanceMethod yX12_swap ∈ gU := gu_in (List.mem_of_getElem? (i := 1247) (by decide +kernel)) rfl
theorem u_1248 : Cond.selects RX12 yX12_swap yX12_swap ∈ gU := gu_in (List.mem_of_getElem? (i := 1248) (by decide +kernel)) rfl
theorem u_1249 : Cond.code yX12_swap cX12_swap 9 (some .int) ∈ gU := gu_in (List.mem_of_getElem? (i := 1249) (by decide +kernel)) rfl
theorem u_787 : Cond.methodLink RL 82 yX11_year ∈ gU := gu_in (List.mem_of_getElem? (i := 787) (by decide +kernel)) rfl
theorem u_788 : Cond.instanceMethod yX11_year ∈ gU := gu_in (List.mem_of_getElem? (i := 788) (by decide +kernel)) rfl
theorem u_789 : Cond.selects RX11 yX11_year yX11_year ∈ gU := gu_in (List.mem_of_getElem? (i := 789) (by decide +kernel)) rfl
theorem u_790 : Cond.code yX11_year cX11_year 1 (some .int) ∈ gU := gu_in (List.mem_of_getElem? (i := 790) (by decide +kernel)) rfl
theorem u_1254 : Cond.methodLink RL 85 yX12_year ∈ gU := gu_in (List.mem_of_getElem? (i := 1254) (by decide +kernel)) rfl
theorem u_1255 : Cond.instanceMethod yX12_year ∈ gU := gu_in (List.mem_of_getElem? (i := 1255) (by decide +kernel)) rfl
theorem u_1256 : Cond.selects RX12 yX12_year yX12_year ∈ gU := gu_in (List.mem_of_getElem? (i := 1256) (by decide +kernel)) rfl
theorem u_1257 : Cond.code yX12_year cX12_year 1 (some .int) ∈ gU := gu_in (List.mem_of_getElem? (i := 1257) (by decide +kernel)) rfl
theorem u_808 : Cond.methodLink RL 86 yX11_years ∈ gU := gu_in (List.mem_of_getElem? (i := 808) (by decide +kernel)) rfl
theorem u_809 : Cond.instanceMethod yX11_years ∈ gU := gu_in (List.mem_of_getElem? (i := 809) (by decide +kernel)) rfl
theorem u_810 : Cond.selects RX11 yX11_years yX11_years ∈ gU := gu_in (List.mem_of_getElem? (i := 810) (by decide +kernel)) rfl
theorem u_811 : Cond.code yX11_years cX11_years 6 (some .int) ∈ gU := gu_in (List.mem_of_getElem? (i := 811) (by decide +kernel)) rfl
theorem u_1266 : Cond.methodLink RL 89 yX12_years ∈ gU := gu_in (List.mem_of_getElem? (i := 1266) (by decide +kernel)) rfl
theorem u_1267 : Cond.instanceMethod yX12_years ∈ gU := gu_in (List.mem_of_getElem? (i := 1267) (by decide +kernel)) rfl
theorem u_1268 : Cond.selects RX12 yX12_years yX12_years ∈ gU := gu_in (List.mem_of_getElem? (i := 1268) (by decide +kernel)) rfl
theorem u_1269 : Cond.code yX12_years cX12_years 7 (some .int) ∈ gU := gu_in (List.mem_of_getElem? (i := 1269) (by decide +kernel)) rfl
theorem u_816 : Cond.methodLink RL 90 yX11_chance ∈ gU := gu_in (List.mem_of_getElem? (i := 816) (by decide +kernel)) rfl
theorem u_817 : Cond.instanceMethod yX11_chance ∈ gU := gu_in (List.mem_of_getElem? (i := 817) (by decide +kernel)) rfl
theorem u_818 : Cond.selects RX11 yX11_chance yX11_chance ∈ gU := gu_in (List.mem_of_getElem? (i := 818) (by decide +kernel)) rfl
theorem u_819 : Cond.code yX11_chance cX11_chance 6 (some .long) ∈ gU := gu_in (List.mem_of_getElem? (i := 819) (by decide +kernel)) rfl
theorem u_1278 : Cond.methodLink RL 94 yX12_chance ∈ gU := gu_in (List.mem_of_getElem? (i := 1278) (by decide +kernel)) rfl
theorem u_1279 : Cond.instanceMethod yX12_chance ∈ gU := gu_in (List.mem_of_getElem? (i := 1279) (by decide +kernel)) rfl
theorem u_1280 : Cond.selects RX12 yX12_chance yX12_chance ∈ gU := gu_in (List.mem_of_getElem? (i := 1280) (by decide +kernel)) rfl
theorem u_1281 : Cond.code yX12_chance cX12_chance 6 (some .long) ∈ gU := gu_in (List.mem_of_getElem? (i := 1281) (by decide +kernel)) rfl
theorem u_830 : Cond.methodLink RL 95 yX11_book ∈ gU := gu_in (List.mem_of_getElem? (i := 830) (by decide +kernel)) rfl
theorem u_831 : Cond.instanceMethod yX11_book ∈ gU := gu_in (List.mem_of_getElem? (i := 831) (by decide +kernel)) rfl
theorem u_832 : Cond.selects RX11 yX11_book yX11_book ∈ gU := gu_in (List.mem_of_getElem? (i := 832) (by decide +kernel)) rfl
theorem u_833 : Cond.code yX11_book cX11_book 4 (some .int) ∈ gU := gu_in (List.mem_of_getElem? (i := 833) (by decide +kernel)) rfl
theorem u_1292 : Cond.methodLink RL 98 yX12_book ∈ gU := gu_in (List.mem_of_getElem? (i := 1292) (by decide +kernel)) rfl
theorem u_1293 : Cond.instanceMethod yX12_book ∈ gU := gu_in (List.mem_of_getElem? (i := 1293) (by decide +kernel)) rfl
theorem u_1294 : Cond.selects RX12 yX12_book yX12_book ∈ gU := gu_in (List.mem_of_getElem? (i := 1294) (by decide +kernel)) rfl
theorem u_1295 : Cond.code yX12_book cX12_book 5 (some .int) ∈ gU := gu_in (List.mem_of_getElem? (i := 1295) (by decide +kernel)) rfl
theorem u_834 : Cond.methodLink RL 99 yX11_clear ∈ gU := gu_in (List.mem_of_getElem? (i := 834) (by decide +kernel)) rfl
theorem u_835 : Cond.instanceMethod yX11_clear ∈ gU := gu_in (List.mem_of_getElem? (i := 835) (by decide +kernel)) rfl
theorem u_836 : Cond.selects RX11 yX11_clear yX11_clear ∈ gU := gu_in (List.mem_of_getElem? (i := 836) (by decide +kernel)) rfl
theorem u_837 : Cond.code yX11_clear cX11_clear 2 (some .int) ∈ gU := gu_in (List.mem_of_getElem? (i := 837) (by decide +kernel)) rfl
theorem u_1296 : Cond.methodLink RL 102 yX12_clear ∈ gU := gu_in (List.mem_of_getElem? (i := 1296) (by decide +kernel)) rfl
theorem u_1297 : Cond.instanceMethod yX12_clear ∈ gU := gu_in (List.mem_of_getElem? (i := 1297) (by decide +kernel)) rfl
theorem u_1298 : Cond.selects RX12 yX12_clear yX12_clear ∈ gU := gu_in (List.mem_of_getElem? (i := 1298) (by decide +kernel)) rfl
theorem u_1299 : Cond.code yX12_clear cX12_clear 2 (some .int) ∈ gU := gu_in (List.mem_of_getElem? (i := 1299) (by decide +kernel)) rfl
theorem u_838 : Cond.methodLink RL 103 yX11_nets ∈ gU := gu_in (List.mem_of_getElem? (i := 838) (by decide +kernel)) rfl
theorem u_839 : Cond.instanceMethod yX11_nets ∈ gU := gu_in (List.mem_of_getElem? (i := 839) (by decide +kernel)) rfl
theorem u_840 : Cond.selects RX11 yX11_nets yX11_nets ∈ gU := gu_in (List.mem_of_getElem? (i := 840) (by decide +kernel)) rfl
theorem u_841 : Cond.code yX11_nets cX11_nets 2 (some .int) ∈ gU := gu_in (List.mem_of_getElem? (i := 841) (by decide +kernel)) rfl
theorem u_1300 : Cond.methodLink RL 106 yX12_nets ∈ gU := gu_in (List.mem_of_getElem? (i := 1300) (by decide +kernel)) rfl
theorem u_1301 : Cond.instanceMethod yX12_nets ∈ gU := gu_in (List.mem_of_getElem? (i := 1301) (by decide +kernel)) rfl
theorem u_1302 : Cond.selects RX12 yX12_nets yX12_nets ∈ gU := gu_in (List.mem_of_getElem? (i := 1302) (by decide +kernel)) rfl
theorem u_1303 : Cond.code yX12_nets cX12_nets 4 (some .int) ∈ gU := gu_in (List.mem_of_getElem? (i := 1303) (by decide +kernel)) rfl
theorem u_854 : Cond.methodLink RL 107 yX11_leans ∈ gU := gu_in (List.mem_of_getElem? (i := 854) (by decide +kernel)) rfl
theorem u_855 : Cond.instanceMethod yX11_leans ∈ gU := gu_in (List.mem_of_getElem? (i := 855) (by decide +kernel)) rfl
theorem u_856 : Cond.selects RX11 yX11_leans yX11_leans ∈ gU := gu_in (List.mem_of_getElem? (i := 856) (by decide +kernel)) rfl
theorem u_857 : Cond.code yX11_leans cX11_leans 9 (some .long) ∈ gU := gu_in (List.mem_of_getElem? (i := 857) (by decide +kernel)) rfl
theorem u_1316 : Cond.methodLink RL 111 yX12_leans ∈ gU := gu_in (List.mem_of_getElem? (i := 1316) (by decide +kernel)) rfl
theorem u_1317 : Cond.instanceMethod yX12_leans ∈ gU := gu_in (List.mem_of_getElem? (i := 1317) (by decide +kernel)) rfl
theorem u_1318 : Cond.selects RX12 yX12_leans yX12_leans ∈ gU := gu_in (List.mem_of_getElem? (i := 1318) (by decide +kernel)) rfl
theorem u_1319 : Cond.code yX12_leans cX12_leans 9 (some .long) ∈ gU := gu_in (List.mem_of_getElem? (i := 1319) (by decide +kernel)) rfl
theorem u_862 : Cond.methodLink RL 112 yX11_looked ∈ gU := gu_in (List.mem_of_getElem? (i := 862) (by decide +kernel)) rfl
theorem u_863 : Cond.instanceMethod yX11_looked ∈ gU := gu_in (List.mem_of_getElem? (i := 863) (by decide +kernel)) rfl
theorem u_864 : Cond.selects RX11 yX11_looked yX11_looked ∈ gU := gu_in (List.mem_of_getElem? (i := 864) (by decide +kernel)) rfl
theorem u_865 : Cond.code yX11_looked cX11_looked 3 (some .int) ∈ gU := gu_in (List.mem_of_getElem? (i := 865) (by decide +kernel)) rfl
theorem u_1320 : Cond.methodLink RL 115 yX12_looked ∈ gU := gu_in (List.mem_of_getElem? (i := 1320) (by decide +kernel)) rfl
theorem u_1321 : Cond.instanceMethod yX12_looked ∈ gU := gu_in (List.mem_of_getElem? (i := 1321) (by decide +kernel)) rfl
theorem u_1322 : Cond.selects RX12 yX12_looked yX12_looked ∈ gU := gu_in (List.mem_of_getElem? (i := 1322) (by decide +kernel)) rfl
theorem u_1323 : Cond.code yX12_looked cX12_looked 2 (some .int) ∈ gU := gu_in (List.mem_of_getElem? (i := 1323) (by decide +kernel)) rfl
theorem u_866 : Cond.methodLink RL 116 yX11_act ∈ gU := gu_in (List.mem_of_getElem? (i := 866) (by decide +kernel)) rfl
theorem u_867 : Cond.instanceMethod yX11_act ∈ gU := gu_in (List.mem_of_getElem? (i := 867) (by decide +kernel)) rfl
theorem u_868 : Cond.selects RX11 yX11_act yX11_act ∈ gU := gu_in (List.mem_of_getElem? (i := 868) (by decide +kernel)) rfl
theorem u_869 : Cond.code yX11_act cX11_act 5 (some .int) ∈ gU := gu_in (List.mem_of_getElem? (i := 869) (by decide +kernel)) rfl
theorem u_1324 : Cond.methodLink RL 119 yX12_act ∈ gU := gu_in (List.mem_of_getElem? (i := 1324) (by decide +kernel)) rfl
theorem u_1325 : Cond.instanceMethod yX12_act ∈ gU := gu_in (List.mem_of_getElem? (i := 1325) (by decide +kernel)) rfl
theorem u_1326 : Cond.selects RX12 yX12_act yX12_act ∈ gU := gu_in (List.mem_of_getElem? (i := 1326) (by decide +kernel)) rfl
theorem u_1327 : Cond.code yX12_act cX12_act 4 (some .int) ∈ gU := gu_in (List.mem_of_getElem? (i := 1327) (by decide +kernel)) rfl
theorem u_943 : Cond.methodLink RL 120 yX11_trace ∈ gU := gu_in (List.mem_of_getElem? (i := 943) (by decide +kernel)) rfl
theorem u_944 : Cond.instanceMethod yX11_trace ∈ gU := gu_in (List.mem_of_getElem? (i := 944) (by decide +kernel)) rfl
theorem u_945 : Cond.selects RX11 yX11_trace yX11_trace ∈ gU := gu_in (List.mem_of_getElem? (i := 945) (by decide +kernel)) rfl
theorem u_946 : Cond.code yX11_trace cX11_trace 2 (some .int) ∈ gU := gu_in (List.mem_of_getElem? (i := 946) (by decide +kernel)) rfl
theorem u_1359 : Cond.methodLink RL 123 yX12_trace ∈ gU := gu_in (List.mem_of_getElem? (i := 1359) (by decide +kernel)) rfl
theorem u_1360 : Cond.instanceMethod yX12_trace ∈ gU := gu_in (List.mem_of_getElem? (i := 1360) (by decide +kernel)) rfl
theorem u_1361 : Cond.selects RX12 yX12_trace yX12_trace ∈ gU := gu_in (List.mem_of_getElem? (i := 1361) (by decide +kernel)) rfl
theorem u_1362 : Cond.code yX12_trace cX12_trace 2 (some .int) ∈ gU := gu_in (List.mem_of_getElem? (i := 1362) (by decide +kernel)) rfl
theorem u_947 : Cond.methodLink RL 124 yX11_as ∈ gU := gu_in (List.mem_of_getElem? (i := 947) (by decide +kernel)) rfl
theorem u_948 : Cond.instanceMethod yX11_as ∈ gU := gu_in (List.mem_of_getElem? (i := 948) (by decide +kernel)) rfl
theorem u_949 : Cond.selects RX11 yX11_as yX11_as ∈ gU := gu_in (List.mem_of_getElem? (i := 949) (by decide +kernel)) rfl
theorem u_950 : Cond.code yX11_as cX11_as 4 (some .int) ∈ gU := gu_in (List.mem_of_getElem? (i := 950) (by decide +kernel)) rfl
theorem u_1363 : Cond.methodLink RL 127 yX12_as ∈ gU := gu_in (List.mem_of_getElem? (i := 1363) (by decide +kernel)) rfl
theorem u_1364 : Cond.instanceMethod yX12_as ∈ gU := gu_in (List.mem_of_getElem? (i := 1364) (by decide +kernel)) rfl
theorem u_1365 : Cond.selects RX12 yX12_as yX12_as ∈ gU := gu_in (List.mem_of_getElem? (i := 1365) (by decide +kernel)) rfl
theorem u_1366 : Cond.code yX12_as cX12_as 3 (some .int) ∈ gU := gu_in (List.mem_of_getElem? (i := 1366) (by decide +kernel)) rfl
theorem u_962 : Cond.methodLink RL 128 yX11_image ∈ gU := gu_in (List.mem_of_getElem? (i := 962) (by decide +kernel)) rfl
theorem u_963 : Cond.instanceMethod yX11_image ∈ gU := gu_in (List.mem_of_getElem? (i := 963) (by decide +kernel)) rfl
theorem u_964 : Cond.selects RX11 yX11_image yX11_image ∈ gU := gu_in (List.mem_of_getElem? (i := 964) (by decide +kernel)) rfl
theorem u_965 : Cond.code yX11_image cX11_image 1 (some .int) ∈ gU := gu_in (List.mem_of_getElem? (i := 965) (by decide +kernel)) rfl
theorem u_1367 : Cond.methodLink RL 131 yX12_image ∈ gU := gu_in (List.mem_of_getElem? (i := 1367) (by decide +kernel)) rfl
theorem u_1368 : Cond.instanceMethod yX12_image ∈ gU := gu_in (List.mem_of_getElem? (i := 1368) (by decide +kernel)) rfl
theorem u_1369 : Cond.selects RX12 yX12_image yX12_image ∈ gU := gu_in (List.mem_of_getElem? (i := 1369) (by decide +kernel)) rfl
theorem u_1370 : Cond.code yX12_image cX12_image 2 (some .int) ∈ gU := gu_in (List.mem_of_getElem? (i := 1370) (by decide +kernel)) rfl
theorem u_966 : Cond.methodLink RL 132 yX11_undo ∈ gU := gu_in (List.mem_of_getElem? (i := 966) (by decide +kernel)) rfl
theorem u_967 : Cond.instanceMethod yX11_undo ∈ gU := gu_in (List.mem_of_getElem? (i := 967) (by decide +kernel)) rfl
theorem u_968 : Cond.selects RX11 yX11_undo yX11_undo ∈ gU := gu_in (List.mem_of_getElem? (i := 968) (by decide +kernel)) rfl
theorem u_969 : Cond.code yX11_undo cX11_undo 1 (some .int) ∈ gU := gu_in (List.mem_of_getElem? (i := 969) (by decide +kernel)) rfl
theorem u_1371 : Cond.methodLink RL 135 yX12_undo ∈ gU := gu_in (List.mem_of_getElem? (i := 1371) (by decide +kernel)) rfl
theorem u_1372 : Cond.instanceMethod yX12_undo ∈ gU := gu_in (List.mem_of_getElem? (i := 1372) (by decide +kernel)) rfl
theorem u_1373 : Cond.selects RX12 yX12_undo yX12_undo ∈ gU := gu_in (List.mem_of_getElem? (i := 1373) (by decide +kernel)) rfl
theorem u_1374 : Cond.code yX12_undo cX12_undo 2 (some .int) ∈ gU := gu_in (List.mem_of_getElem? (i := 1374) (by decide +kernel)) rfl
theorem u_970 : Cond.methodLink RL 136 yX11_count ∈ gU := gu_in (List.mem_of_getElem? (i := 970) (by decide +kernel)) rfl
theorem u_971 : Cond.instanceMethod yX11_count ∈ gU := gu_in (List.mem_of_getElem? (i := 971) (by decide +kernel)) rfl
theorem u_972 : Cond.selects RX11 yX11_count yX11_count ∈ gU := gu_in (List.mem_of_getElem? (i := 972) (by decide +kernel)) rfl
theorem u_973 : Cond.code yX11_count cX11_count 2 (some .int) ∈ gU := gu_in (List.mem_of_getElem? (i := 973) (by decide +kernel)) rfl
theorem u_1375 : Cond.methodLink RL 139 yX12_count ∈ gU := gu_in (List.mem_of_getElem? (i := 1375) (by decide +kernel)) rfl
theorem u_1376 : Cond.instanceMethod yX12_count ∈ gU := gu_in (List.mem_of_getElem? (i := 1376) (by decide +kernel)) rfl
theorem u_1377 : Cond.selects RX12 yX12_count yX12_count ∈ gU := gu_in (List.mem_of_getElem? (i := 1377) (by decide +kernel)) rfl
theorem u_1378 : Cond.code yX12_count cX12_count 2 (some .int) ∈ gU := gu_in (List.mem_of_getElem? (i := 1378) (by decide +kernel)) rfl
theorem u_770 : Cond.methodLink RL 74 yX11_asked ∈ gU := gu_in (List.mem_of_getElem? (i := 770) (by decide +kernel)) rfl
theorem u_771 : Cond.instanceMethod yX11_asked ∈ gU := gu_in (List.mem_of_getElem? (i := 771) (by decide +kernel)) rfl
theorem u_772 : Cond.selects RX11 yX11_asked yX11_asked ∈ gU := gu_in (List.mem_of_getElem? (i := 772) (by decide +kernel)) rfl
theorem u_773 : Cond.code yX11_asked cX11_asked 6 (some .int) ∈ gU := gu_in (List.mem_of_getElem? (i := 773) (by decide +kernel)) rfl
theorem u_1242 : Cond.methodLink RL 77 yX12_asked ∈ gU := gu_in (List.mem_of_getElem? (i := 1242) (by decide +kernel)) rfl
theorem u_1243 : Cond.instanceMethod yX12_asked ∈ gU := gu_in (List.mem_of_getElem? (i := 1243) (by decide +kernel)) rfl
theorem u_1244 : Cond.selects RX12 yX12_asked yX12_asked ∈ gU := gu_in (List.mem_of_getElem? (i := 1244) (by decide +kernel)) rfl
theorem u_1245 : Cond.code yX12_asked cX12_asked 8 (some .int) ∈ gU := gu_in (List.mem_of_getElem? (i := 1245) (by decide +kernel)) rfl
theorem qv_X11_asked : yX11_asked.cls = RX11 ∧ yX11_asked.cls ≠ "java/lang/invoke/MethodHandle" ∧ yX11_asked.cls ≠ "java/lang/invoke/VarHandle" ∧ (parseMethodDescriptor yX11_asked.desc).map (fun d => d.parameters.length) = some 2 := by decide +kernel
set_option maxHeartbeats 4000000 in
set_option maxRecDepth 100000 in
theorem law_feed {Γ : gT} {b L : Nat} {xs : Nat → Int32} {q : Nat → Nat} {r : Nat → Nat → Nat} {m : Nat} {rm : Nat → Nat} (H : LK Γ b L xs) {i : Nat} (hi6 : i + 6 ≤ L) {cl sl : Nat} {ws : va_W} (hc : cl + 10 ≤ 600000) (hs : sl + 311 ≤ 7302250) (hLI : LI (g_E Γ) q r m rm ws) (kn : ∀ ws', LI (g_E Γ) q r m rm ws' → gGO Γ (cl + 10) (sl + 311) 1080 [(0, .ref b), (1, .ref (q 5)), (2, .ref m), (3, .int (nI i))] [] ws') : gGO Γ cl sl 168 [(0, .ref b), (1, .ref (q 5)), (2, .ref m), (3, .int (nI i))] [] ws := by
  obtain ⟨K, hRm, hn4, hfz, hX, hbl, hbA, hL⟩ := H
  obtain ⟨x1, hx1⟩ : ∃ x, xs (nI i + nI 1).toNatClampNeg = x := ⟨_, rfl⟩
  obtain ⟨F, fl, o0, A0, C0, h0, o1, A1, C1, h1, o2, A2, C2, h2, gs, gA, tb, tA, bf, hi, o, A, rfl, hF, hPL, hSW, hhi, hk2, ho4, hTR⟩ := hLI
  obtain ⟨⟨W, C, y, Hn, R, T, hS⟩, hR⟩ := id hSW
  obtain ⟨v, w4, w17, t, e1, e2, hW⟩ := m_feed hS hR x1
  refine g_aload_n K dL_law_168 rfl 1 rfl ?_
  refine g_aload_n K dL_law_169 rfl 0 rfl ?_
  refine g_iload_n K dL_law_170 rfl 3 rfl ?_
  refine g_iconst (v := 1) K dL_law_171 (by decide) ?_
  refine g_iadd K dL_law_172 ?_
  refine gL_sld K hX hbl hbA (l_in hi6 hL (k := 1) (by decide)) hx1 dL_law_173 ?_
  rw [← cw_ext (fl := fl)]
  refine g_cutVi (As := [.int x1]) (bytes := cX11_feed) (maxL := 2) (ret := (some .int)) K fl (mw (g_E Γ) m rm o A) (ctX11_feed (E := gExt (g_E Γ) fl) (q := q) (r := r) hF o0 A0 C0 h0 o1 A1 C1 h1 o2 A2 C2 h2 gs gA tb tA bf hi x1 (res := (v, w4, w17)) e1) 0 rfl rfl rfl (gu_V u_346 u_347 u_348 u_68 u_349) rfl qv_X11_feed hRm rfl rfl rfl (by decide) (Nat.le_of_ble_eq_true rfl) ⟨by show cl + 0 ≤ 600000; omega, by show sl + 0 ≤ 7302250; omega⟩ dL_law_174 (fun v9 w9 hw => ?_)
  obtain ⟨hv9, rfl⟩ := hw
  obtain rfl : v = v9 := hv9.symm
  rw [cw_ext]
  refine g_aload_n K dL_law_177 rfl 2 rfl ?_
  refine g_aload_n K dL_law_178 rfl 0 rfl ?_
  refine g_iload_n K dL_law_179 rfl 3 rfl ?_
  refine g_iconst (v := 1) K dL_law_180 (by decide) ?_
  refine g_iadd K dL_law_181 ?_
  refine gL_sld K hX hbl hbA (l_in hi6 hL (k := 1) (by decide)) hx1 dL_law_182 ?_
  refine g_r3 ?_
  rw [← mw_ext (fl := [])]
  refine g_cutVi (As := [.int x1]) (bytes := cX12_feed) (maxL := 2) (ret := (some .int)) K [] (_ ++ fl) (ctX12_feed (E := gExt (g_E Γ) []) (m := m) (r := rm) o A x1 (res := (v, t)) e2) 0 rfl rfl rfl (gu_V u_1047 u_1048 u_1049 u_75 u_1050) rfl qv_X12_feed hRm rfl rfl rfl (by decide) (Nat.le_of_ble_eq_true rfl) ⟨by show cl + 0 + 0 ≤ 600000; omega, by show sl + 0 + 0 ≤ 7302250; omega⟩ dL_law_183 (fun u9 w9 hw => ?_)
  obtain ⟨hv9, rfl⟩ := hw
  obtain rfl : v = u9 := hv9.symm
  rw [mw_ext]
  refine g_r4 ?_
  refine g_icmp_eq (tgt := 1080) K dL_law_186 (by decide) (fun _ => ?_) (fun qh => absurd rfl qh)
  exact g_wid (by omega) (by omega) (kn _ ⟨F, fl, _, _, _, _, _, _, _, _, _, _, _, _, _, _, _, _, _, _, _, _, rfl, hF, hPL, hW, hhi, hk2, ho4, hTR⟩)

set_option maxHeartbeats 4000000 in
set_option maxRecDepth 100000 in
theorem law_told {Γ : gT} {b L : Nat} {xs : Nat → Int32} {q : Nat → Nat} {r : Nat → Nat → Nat} {m : Nat} {rm : Nat → Nat} (H : LK Γ b L xs) {i : Nat} (hi6 : i + 6 ≤ L) {cl sl : Nat} {ws : va_W} (hc : cl + 10 ≤ 600000) (hs : sl + 311 ≤ 7302250) (hLI : LI (g_E Γ) q r m rm ws) (kn : ∀ ws', LI (g_E Γ) q r m rm ws' → gGO Γ (cl + 10) (sl + 311) 1080 [(0, .ref b), (1, .ref (q 5)), (2, .ref m), (3, .int (nI i))] [] ws') : gGO Γ cl sl 204 [(0, .ref b), (1, .ref (q 5)), (2, .ref m), (3, .int (nI i))] [] ws := by
  obtain ⟨K, hRm, hn4, hfz, hX, hbl, hbA, hL⟩ := H
  obtain ⟨x1, hx1⟩ : ∃ x, xs (nI i + nI 1).toNatClampNeg = x := ⟨_, rfl⟩
  obtain ⟨F, fl, o0, A0, C0, h0, o1, A1, C1, h1, o2, A2, C2, h2, gs, gA, tb, tA, bf, hi, o, A, rfl, hF, hPL, hSW, hhi, hk2, ho4, hTR⟩ := hLI
  obtain ⟨⟨W, C, y, Hn, R, T, hS⟩, hR⟩ := id hSW
  obtain ⟨v, e1, e2⟩ := m_told hS hR x1
  refine g_aload_n K dL_law_204 rfl 1 rfl ?_
  refine g_aload_n K dL_law_205 rfl 0 rfl ?_
  refine g_iload_n K dL_law_206 rfl 3 rfl ?_
  refine g_iconst (v := 1) K dL_law_207 (by decide) ?_
  refine g_iadd K dL_law_208 ?_
  refine gL_sld K hX hbl hbA (l_in hi6 hL (k := 1) (by decide)) hx1 dL_law_209 ?_
  rw [← cw_ext (fl := fl)]
  refine g_cutVi (As := [.int x1]) (bytes := cX11_told) (maxL := 2) (ret := (some .int)) K fl (mw (g_E Γ) m rm o A) (ctX11_told (E := gExt (g_E Γ) fl) (q := q) (r := r) hF o0 A0 C0 h0 o1 A1 C1 h1 o2 A2 C2 h2 gs gA tb tA bf hi x1 (res := v) e1) 0 rfl rfl rfl (gu_V u_510 u_511 u_512 u_68 u_513) rfl qv_X11_told hRm rfl rfl rfl (by decide) (Nat.le_of_ble_eq_true rfl) ⟨by show cl + 0 ≤ 600000; omega, by show sl + 0 ≤ 7302250; omega⟩ dL_law_210 (fun v9 w9 hw => ?_)
  obtain ⟨hv9, rfl⟩ := hw
  obtain rfl : v = v9 := hv9.symm
  rw [cw_ext]
  refine g_aload_n K dL_law_213 rfl 2 rfl ?_
  refine g_aload_n K dL_law_214 rfl 0 rfl ?_
  refine g_iload_n K dL_law_215 rfl 3 rfl ?_
  refine g_iconst (v := 1) K dL_law_216 (by decide) ?_
  refine g_iadd K dL_law_217 ?_
  refine gL_sld K hX hbl hbA (l_in hi6 hL (k := 1) (by decide)) hx1 dL_law_218 ?_
  refine g_r3 ?_
  rw [← mw_ext (fl := [])]
  refine g_cutVi (As := [.int x1]) (bytes := cX12_told) (maxL := 2) (ret := (some .int)) K [] (_ ++ fl) (ctX12_told (E := gExt (g_E Γ) []) (m := m) (r := rm) o A x1 (res := v) e2) 0 rfl rfl rfl (gu_V u_1115 u_1116 u_1117 u_75 u_1118) rfl qv_X12_told hRm rfl rfl rfl (by decide) (Nat.le_of_ble_eq_true rfl) ⟨by show cl + 0 + 0 ≤ 600000; omega, by show sl + 0 + 0 ≤ 7302250; omega⟩ dL_law_219 (fun u9 w9 hw => ?_)
  obtain ⟨hv9, rfl⟩ := hw
  obtain rfl : v = u9 := hv9.symm
  rw [mw_ext]
  refine g_r4 ?_
  refine g_icmp_eq (tgt := 1080) K dL_law_222 (by decide) (fun _ => ?_) (fun qh => absurd rfl qh)
  exact g_wid (by omega) (by omega) (kn _ ⟨F, fl, _, _, _, _, _, _, _, _, _, _, _, _, _, _, _, _, _, _, _, _, rfl, hF, hPL, ⟨⟨W, C, y, Hn, R, T, hS⟩, hR⟩, hhi, hk2, ho4, hTR⟩)

set_option maxHeartbeats 4000000 in
set_option maxRecDepth 100000 in
theorem law_worker {Γ : gT} {b L : Nat} {xs : Nat → Int32} {q : Nat → Nat} {r : Nat → Nat → Nat} {m : Nat} {rm : Nat → Nat} (H : LK Γ b L xs) {i : Nat} (hi6 : i + 6 ≤ L) {cl sl : Nat} {ws : va_W} (hc : cl + 10 ≤ 600000) (hs : sl + 311 ≤ 7302250) (hLI : LI (g_E Γ) q r m rm ws) (kn : ∀ ws', LI (g_E Γ) q r m rm ws' → gGO Γ (cl + 10) (sl + 311) 1080 [(0, .ref b), (1, .ref (q 5)), (2, .ref m), (3, .int (nI i))] [] ws') : gGO Γ cl sl 270 [(0, .ref b), (1, .ref (q 5)), (2, .ref m), (3, .int (nI i))] [] ws := by
  obtain ⟨K, hRm, hn4, hfz, hX, hbl, hbA, hL⟩ := H
  obtain ⟨x1, hx1⟩ : ∃ x, xs (nI i + nI 1).toNatClampNeg = x := ⟨_, rfl⟩
  obtain ⟨x2, hx2⟩ : ∃ x, xs (nI i + nI 2).toNatClampNeg = x := ⟨_, rfl⟩
  obtain ⟨x3, hx3⟩ : ∃ x, xs (nI i + nI 3).toNatClampNeg = x := ⟨_, rfl⟩
  obtain ⟨x4, hx4⟩ : ∃ x, xs (nI i + nI 4).toNatClampNeg = x := ⟨_, rfl⟩
  obtain ⟨F, fl, o0, A0, C0, h0, o1, A1, C1, h1, o2, A2, C2, h2, gs, gA, tb, tA, bf, hi, o, A, rfl, hF, hPL, hSW, hhi, hk2, ho4, hTR⟩ := hLI
  obtain ⟨⟨W, C, y, Hn, R, T, hS⟩, hR⟩ := id hSW
  obtain ⟨v, w0, w8, w9, w10, w11, w12, t, e1, e2, hW⟩ := m_worker hS hR x1 x2 x3 x4
  refine g_aload_n K dL_law_270 rfl 1 rfl ?_
  refine g_aload_n K dL_law_271 rfl 0 rfl ?_
  refine g_iload_n K dL_law_272 rfl 3 rfl ?_
  refine g_iconst (v := 1) K dL_law_273 (by decide) ?_
  refine g_iadd K dL_law_274 ?_
  refine gL_sld K hX hbl hbA (l_in hi6 hL (k := 1) (by decide)) hx1 dL_law_275 ?_
  refine g_aload_n K dL_law_276 rfl 0 rfl ?_
  refine g_iload_n K dL_law_277 rfl 3 rfl ?_
  refine g_iconst (v := 2) K dL_law_278 (by decide) ?_
  refine g_iadd K dL_law_279 ?_
  refine gL_sld K hX hbl hbA (l_in hi6 hL (k := 2) (by decide)) hx2 dL_law_280 ?_
  refine g_aload_n K dL_law_281 rfl 0 rfl ?_
  refine g_iload_n K dL_law_282 rfl 3 rfl ?_
  refine g_iconst (v := 3) K dL_law_283 (by decide) ?_
  refine g_iadd K dL_law_284 ?_
  refine gL_sld K hX hbl hbA (l_in hi6 hL (k := 3) (by decide)) hx3 dL_law_285 ?_
  refine g_aload_n K dL_law_286 rfl 0 rfl ?_
  refine g_iload_n K dL_law_287 rfl 3 rfl ?_
  refine g_iconst (v := 4) K dL_law_288 (by decide) ?_
  refine g_iadd K dL_law_289 ?_
  refine gL_sld K hX hbl hbA (l_in hi6 hL (k := 4) (by decide)) hx4 dL_law_290 ?_
  rw [← cw_ext (fl := fl)]
  refine g_cutVi (As := [.int x1, .int x2, .int x3, .int x4]) (bytes := cX11_worker) (maxL := 6) (ret := (some .int)) K fl (mw (g_E Γ) m rm o A) (ctX11_worker (E := gExt (g_E Γ) fl) (q := q) (r := r) hF o0 A0 C0 h0 o1 A1 C1 h1 o2 A2 C2 h2 gs gA tb tA bf hi x1 x2 x3 x4 (res := (v, w0, w8, w9, w10, w11, w12)) e1) 0 rfl rfl rfl (gu_V u_592 u_593 u_594 u_68 u_595) rfl qv_X11_worker hRm rfl rfl rfl (by decide) (Nat.le_of_ble_eq_true rfl) ⟨by show cl + 0 ≤ 600000; omega, by show sl + 0 ≤ 7302250; omega⟩ dL_law_291 (fun v9 w9 hw => ?_)
  obtain ⟨hv9, rfl⟩ := hw
  obtain rfl : v = v9 := hv9.symm
  rw [cw_ext]
  refine g_aload_n K dL_law_294 rfl 2 rfl ?_
  refine g_aload_n K dL_law_295 rfl 0 rfl ?_
  refine g_iload_n K dL_law_296 rfl 3 rfl ?_
  refine g_iconst (v := 1) K dL_law_297 (by decide) ?_
  refine g_iadd K dL_law_298 ?_
  refine gL_sld K hX hbl hbA (l_in hi6 hL (k := 1) (by decide)) hx1 dL_law_299 ?_
  refine g_aload_n K dL_law_300 rfl 0 rfl ?_
  refine g_iload_n K dL_law_301 rfl 3 rfl ?_
  refine g_iconst (v := 2) K dL_law_302 (by decide) ?_
  refine g_iadd K dL_law_303 ?_
  refine gL_sld K hX hbl hbA (l_in hi6 hL (k := 2) (by decide)) hx2 dL_law_304 ?_
  refine g_aload_n K dL_law_305 rfl 0 rfl ?_
  refine g_iload_n K dL_law_306 rfl 3 rfl ?_
  refine g_iconst (v := 3) K dL_law_307 (by decide) ?_
  refine g_iadd K dL_law_308 ?_
  refine gL_sld K hX hbl hbA (l_in hi6 hL (k := 3) (by decide)) hx3 dL_law_309 ?_
  refine g_aload_n K dL_law_310 rfl 0 rfl ?_
  refine g_iload_n K dL_law_311 rfl 3 rfl ?_
  refine g_iconst (v := 4) K dL_law_312 (by decide) ?_
  refine g_iadd K dL_law_313 ?_
  refine gL_sld K hX hbl hbA (l_in hi6 hL (k := 4) (by decide)) hx4 dL_law_314 ?_
  refine g_r3 ?_
  rw [← mw_ext (fl := [])]
  refine g_cutVi (As := [.int x1, .int x2, .int x3, .int x4]) (bytes := cX12_worker) (maxL := 6) (ret := (some .int)) K [] (_ ++ fl) (ctX12_worker (E := gExt (g_E Γ) []) (m := m) (r := rm) o A x1 x2 x3 x4 (res := (v, t)) e2) 0 rfl rfl rfl (gu_V u_1127 u_1128 u_1129 u_75 u_1130) rfl qv_X12_worker hRm rfl rfl rfl (by decide) (Nat.le_of_ble_eq_true rfl) ⟨by show cl + 0 + 0 ≤ 600000; omega, by show sl + 0 + 0 ≤ 7302250; omega⟩ dL_law_315 (fun u9 w9 hw => ?_)
  obtain ⟨hv9, rfl⟩ := hw
  obtain rfl : v = u9 := hv9.symm
  rw [mw_ext]
  refine g_r4 ?_
  refine g_icmp_eq (tgt := 1080) K dL_law_318 (by decide) (fun _ => ?_) (fun qh => absurd rfl qh)
  exact g_wid (by omega) (by omega) (kn _ ⟨F, fl, _, _, _, _, _, _, _, _, _, _, _, _, _, _, _, _, _, _, _, _, rfl, hF, hPL, hW, hhi, hk2, ho4, hTR⟩)

set_option maxHeartbeats 4000000 in
set_option maxRecDepth 100000 in
theorem law_of {Γ : gT} {b L : Nat} {xs : Nat → Int32} {q : Nat → Nat} {r : Nat → Nat → Nat} {m : Nat} {rm : Nat → Nat} (H : LK Γ b L xs) {i : Nat} (hi6 : i + 6 ≤ L) {cl sl : Nat} {ws : va_W} (hc : cl + 10 ≤ 600000) (hs : sl + 311 ≤ 7302250) (hLI : LI (g_E Γ) q r m rm ws) (kn : ∀ ws', LI (g_E Γ) q r m rm ws' → gGO Γ (cl + 10) (sl + 311) 1080 [(0, .ref b), (1, .ref (q 5)), (2, .ref m), (3, .int (nI i))] [] ws') : gGO Γ cl sl 323 [(0, .ref b), (1, .ref (q 5)), (2, .ref m), (3, .int (nI i))] [] ws := by
  obtain ⟨K, hRm, hn4, hfz, hX, hbl, hbA, hL⟩ := H
  obtain ⟨x1, hx1⟩ : ∃ x, xs (nI i + nI 1).toNatClampNeg = x := ⟨_, rfl⟩
  obtain ⟨x2, hx2⟩ : ∃ x, xs (nI i + nI 2).toNatClampNeg = x := ⟨_, rfl⟩
  obtain ⟨F, fl, o0, A0, C0, h0, o1, A1, C1, h1, o2, A2, C2, h2, gs, gA, tb, tA, bf, hi, o, A, rfl, hF, hPL, hSW, hhi, hk2, ho4, hTR⟩ := hLI
  obtain ⟨⟨W, C, y, Hn, R, T, hS⟩, hR⟩ := id hSW
  obtain ⟨v, fs, f0, f1, f2, f3, f5, b10, b11, b12, b13, b14, b15, b16, e1, e2⟩ := m_of hS hR hPL gs (gA 0) (gA 1) (gA 2) (gA 3) (gA 5) (A 10) (A 11) (A 12) (A 13) (A 14) (A 15) (A 16) x1 x2
  refine g_aload_n K dL_law_323 rfl 1 rfl ?_
  refine g_aload_n K dL_law_324 rfl 0 rfl ?_
  refine g_iload_n K dL_law_325 rfl 3 rfl ?_
  refine g_iconst (v := 1) K dL_law_326 (by decide) ?_
  refine g_iadd K dL_law_327 ?_
  refine gL_sld K hX hbl hbA (l_in hi6 hL (k := 1) (by decide)) hx1 dL_law_328 ?_
  refine g_aload_n K dL_law_329 rfl 0 rfl ?_
  refine g_iload_n K dL_law_330 rfl 3 rfl ?_
  refine g_iconst (v := 2) K dL_law_331 (by decide) ?_
  refine g_iadd K dL_law_332 ?_
  refine gL_sld K hX hbl hbA (l_in hi6 hL (k := 2) (by decide)) hx2 dL_law_333 ?_
  rw [← cw_ext (fl := fl)]
  refine g_cutVi (As := [.int x1, .int x2]) (bytes := cX11_of) (maxL := 3) (ret := (some .int)) K fl (mw (g_E Γ) m rm o A) (ctX11_of (E := gExt (g_E Γ) fl) (q := q) (r := r) hF o0 A0 C0 h0 o1 A1 C1 h1 o2 A2 C2 h2 gs gA tb tA bf hi x1 x2 (res := (v, fs, f0, f1, f2, f3, f5)) e1) 0 rfl rfl rfl (gu_V u_600 u_601 u_602 u_68 u_603) rfl qv_X11_of hRm rfl rfl rfl (by decide) (Nat.le_of_ble_eq_true rfl) ⟨by show cl + 0 ≤ 600000; omega, by show sl + 0 ≤ 7302250; omega⟩ dL_law_334 (fun v9 w9 hw => ?_)
  obtain ⟨hv9, rfl⟩ := hw
  obtain rfl : v = v9 := hv9.symm
  rw [cw_ext]
  refine g_aload_n K dL_law_337 rfl 2 rfl ?_
  refine g_aload_n K dL_law_338 rfl 0 rfl ?_
  refine g_iload_n K dL_law_339 rfl 3 rfl ?_
  refine g_iconst (v := 1) K dL_law_340 (by decide) ?_
  refine g_iadd K dL_law_341 ?_
  refine gL_sld K hX hbl hbA (l_in hi6 hL (k := 1) (by decide)) hx1 dL_law_342 ?_
  refine g_aload_n K dL_law_343 rfl 0 rfl ?_
  refine g_iload_n K dL_law_344 rfl 3 rfl ?_
  refine g_iconst (v := 2) K dL_law_345 (by decide) ?_
  refine g_iadd K dL_law_346 ?_
  refine gL_sld K hX hbl hbA (l_in hi6 hL (k := 2) (by decide)) hx2 dL_law_347 ?_
  refine g_r3 ?_
  rw [← mw_ext (fl := [])]
  refine g_cutVi (As := [.int x1, .int x2]) (bytes := cX12_of) (maxL := 3) (ret := (some .int)) K [] (_ ++ fl) (ctX12_of (E := gExt (g_E Γ) []) (m := m) (r := rm) o A x1 x2 (res := (v, b10, b11, b12, b13, b14, b15, b16)) e2) 0 rfl rfl rfl (gu_V u_1159 u_1160 u_1161 u_75 u_1162) rfl qv_X12_of hRm rfl rfl rfl (by decide) (Nat.le_of_ble_eq_true rfl) ⟨by show cl + 0 + 0 ≤ 600000; omega, by show sl + 0 + 0 ≤ 7302250; omega⟩ dL_law_348 (fun u9 w9 hw => ?_)
  obtain ⟨hv9, rfl⟩ := hw
  obtain rfl : v = u9 := hv9.symm
  rw [mw_ext]
  refine g_r4 ?_
  refine g_icmp_eq (tgt := 1080) K dL_law_351 (by decide) (fun _ => ?_) (fun qh => absurd rfl qh)
  exact g_wid (by omega) (by omega) (kn _ ⟨F, fl, _, _, _, _, _, _, _, _, _, _, _, _, _, _, _, _, _, _, _, _, rfl, hF, hPL, ⟨⟨W, C, y, Hn, R, T, hS⟩, hR⟩, hhi, hk2, ho4, hTR⟩)

set_option maxHeartbeats 4000000 in
set_option maxRecDepth 100000 in
theorem law_by {Γ : gT} {b L : Nat} {xs : Nat → Int32} {q : Nat → Nat} {r : Nat → Nat → Nat} {m : Nat} {rm : Nat → Nat} (H : LK Γ b L xs) {i : Nat} (hi6 : i + 6 ≤ L) {cl sl : Nat} {ws : va_W} (hc : cl + 10 ≤ 600000) (hs : sl + 311 ≤ 7302250) (hLI : LI (g_E Γ) q r m rm ws) (kn : ∀ ws', LI (g_E Γ) q r m rm ws' → gGO Γ (cl + 10) (sl + 311) 1080 [(0, .ref b), (1, .ref (q 5)), (2, .ref m), (3, .int (nI i))] [] ws') : gGO Γ cl sl 356 [(0, .ref b), (1, .ref (q 5)), (2, .ref m), (3, .int (nI i))] [] ws := by
  obtain ⟨K, hRm, hn4, hfz, hX, hbl, hbA, hL⟩ := H
  obtain ⟨x1, hx1⟩ : ∃ x, xs (nI i + nI 1).toNatClampNeg = x := ⟨_, rfl⟩
  obtain ⟨x2, hx2⟩ : ∃ x, xs (nI i + nI 2).toNatClampNeg = x := ⟨_, rfl⟩
  obtain ⟨F, fl, o0, A0, C0, h0, o1, A1, C1, h1, o2, A2, C2, h2, gs, gA, tb, tA, bf, hi, o, A, rfl, hF, hPL, hSW, hhi, hk2, ho4, hTR⟩ := hLI
  obtain ⟨⟨W, C, y, Hn, R, T, hS⟩, hR⟩ := id hSW
  obtain ⟨v, e1, e2⟩ := m_by hS hR x1 x2
  refine g_aload_n K dL_law_356 rfl 1 rfl ?_
  refine g_aload_n K dL_law_357 rfl 0 rfl ?_
  refine g_iload_n K dL_law_358 rfl 3 rfl ?_
  refine g_iconst (v := 1) K dL_law_359 (by decide) ?_
  refine g_iadd K dL_law_360 ?_
  refine gL_sld K hX hbl hbA (l_in hi6 hL (k := 1) (by decide)) hx1 dL_law_361 ?_
  refine g_aload_n K dL_law_362 rfl 0 rfl ?_
  refine g_iload_n K dL_law_363 rfl 3 rfl ?_
  refine g_iconst (v := 2) K dL_law_364 (by decide) ?_
  refine g_iadd K dL_law_365 ?_
  refine gL_sld K hX hbl hbA (l_in hi6 hL (k := 2) (by decide)) hx2 dL_law_366 ?_
  rw [← cw_ext (fl := fl)]
  refine g_cutVi (As := [.int x1, .int x2]) (bytes := cX11_by) (maxL := 4) (ret := (some .int)) K fl (mw (g_E Γ) m rm o A) (ctX11_by (E := gExt (g_E Γ) fl) (q := q) (r := r) hF o0 A0 C0 h0 o1 A1 C1 h1 o2 A2 C2 h2 gs gA tb tA bf hi x1 x2 (res := v) e1) 0 rfl rfl rfl (gu_V u_723 u_724 u_725 u_68 u_726) rfl qv_X11_by hRm rfl rfl rfl (by decide) (Nat.le_of_ble_eq_true rfl) ⟨by show cl + 0 ≤ 600000; omega, by show sl + 0 ≤ 7302250; omega⟩ dL_law_367 (fun v9 w9 hw => ?_)
  obtain ⟨hv9, rfl⟩ := hw
  obtain rfl : v = v9 := hv9.symm
  rw [cw_ext]
  refine g_aload_n K dL_law_370 rfl 2 rfl ?_
  refine g_aload_n K dL_law_371 rfl 0 rfl ?_
  refine g_iload_n K dL_law_372 rfl 3 rfl ?_
  refine g_iconst (v := 1) K dL_law_373 (by decide) ?_
  refine g_iadd K dL_law_374 ?_
  refine gL_sld K hX hbl hbA (l_in hi6 hL (k := 1) (by decide)) hx1 dL_law_375 ?_
  refine g_aload_n K dL_law_376 rfl 0 rfl ?_
  refine g_iload_n K dL_law_377 rfl 3 rfl ?_
  refine g_iconst (v := 2) K dL_law_378 (by decide) ?_
  refine g_iadd K dL_law_379 ?_
  refine gL_sld K hX hbl hbA (l_in hi6 hL (k := 2) (by decide)) hx2 dL_law_380 ?_
  refine g_r3 ?_
  rw [← mw_ext (fl := [])]
  refine g_cutVi (As := [.int x1, .int x2]) (bytes := cX12_by) (maxL := 5) (ret := (some .int)) K [] (_ ++ fl) (ctX12_by (E := gExt (g_E Γ) []) (m := m) (r := rm) o A x1 x2 (res := v) e2) 0 rfl rfl rfl (gu_V u_1135 u_1136 u_1137 u_75 u_1138) rfl qv_X12_by hRm rfl rfl rfl (by decide) (Nat.le_of_ble_eq_true rfl) ⟨by show cl + 0 + 0 ≤ 600000; omega, by show sl + 0 + 0 ≤ 7302250; omega⟩ dL_law_381 (fun u9 w9 hw => ?_)
  obtain ⟨hv9, rfl⟩ := hw
  obtain rfl : v = u9 := hv9.symm
  rw [mw_ext]
  refine g_r4 ?_
  refine g_icmp_eq (tgt := 1080) K dL_law_384 (by decide) (fun _ => ?_) (fun qh => absurd rfl qh)
  exact g_wid (by omega) (by omega) (kn _ ⟨F, fl, _, _, _, _, _, _, _, _, _, _, _, _, _, _, _, _, _, _, _, _, rfl, hF, hPL, ⟨⟨W, C, y, Hn, R, T, hS⟩, hR⟩, hhi, hk2, ho4, hTR⟩)

set_option maxHeartbeats 4000000 in
set_option maxRecDepth 100000 in
theorem law_move {Γ : gT} {b L : Nat} {xs : Nat → Int32} {q : Nat → Nat} {r : Nat → Nat → Nat} {m : Nat} {rm : Nat → Nat} (H : LK Γ b L xs) {i : Nat} (hi6 : i + 6 ≤ L) {cl sl : Nat} {ws : va_W} (hc : cl + 10 ≤ 600000) (hs : sl + 311 ≤ 7302250) (hLI : LI (g_E Γ) q r m rm ws) (kn : ∀ ws', LI (g_E Γ) q r m rm ws' → gGO Γ (cl + 10) (sl + 311) 1080 [(0, .ref b), (1, .ref (q 5)), (2, .ref m), (3, .int (nI i))] [] ws') : gGO Γ cl sl 389 [(0, .ref b), (1, .ref (q 5)), (2, .ref m), (3, .int (nI i))] [] ws := by
  obtain ⟨K, hRm, hn4, hfz, hX, hbl, hbA, hL⟩ := H
  obtain ⟨x1, hx1⟩ : ∃ x, xs (nI i + nI 1).toNatClampNeg = x := ⟨_, rfl⟩
  obtain ⟨x2, hx2⟩ : ∃ x, xs (nI i + nI 2).toNatClampNeg = x := ⟨_, rfl⟩
  obtain ⟨F, fl, o0, A0, C0, h0, o1, A1, C1, h1, o2, A2, C2, h2, gs, gA, tb, tA, bf, hi, o, A, rfl, hF, hPL, hSW, hhi, hk2, ho4, hTR⟩ := hLI
  obtain ⟨⟨W, C, y, Hn, R, T, hS⟩, hR⟩ := id hSW
  obtain ⟨v, w10, t, e1, e2, hW⟩ := m_move hS hR x1 x2
  refine g_aload_n K dL_law_389 rfl 1 rfl ?_
  refine g_aload_n K dL_law_390 rfl 0 rfl ?_
  refine g_iload_n K dL_law_391 rfl 3 rfl ?_
  refine g_iconst (v := 1) K dL_law_392 (by decide) ?_
  refine g_iadd K dL_law_393 ?_
  refine gL_sld K hX hbl hbA (l_in hi6 hL (k := 1) (by decide)) hx1 dL_law_394 ?_
  refine g_aload_n K dL_law_395 rfl 0 rfl ?_
  refine g_iload_n K dL_law_396 rfl 3 rfl ?_
  refine g_iconst (v := 2) K dL_law_397 (by decide) ?_
  refine g_iadd K dL_law_398 ?_
  refine gL_sld K hX hbl hbA (l_in hi6 hL (k := 2) (by decide)) hx2 dL_law_399 ?_
  rw [← cw_ext (fl := fl)]
  refine g_cutVi (As := [.int x1, .int x2]) (bytes := cX11_move) (maxL := 4) (ret := (some .int)) K fl (mw (g_E Γ) m rm o A) (ctX11_move (E := gExt (g_E Γ) fl) (q := q) (r := r) hF o0 A0 C0 h0 o1 A1 C1 h1 o2 A2 C2 h2 gs gA tb tA bf hi x1 x2 (res := (v, w10)) e1) 0 rfl rfl rfl (gu_V u_729 u_730 u_731 u_68 u_732) rfl qv_X11_move hRm rfl rfl rfl (by decide) (Nat.le_of_ble_eq_true rfl) ⟨by show cl + 0 ≤ 600000; omega, by show sl + 0 ≤ 7302250; omega⟩ dL_law_400 (fun v9 w9 hw => ?_)
  obtain ⟨hv9, rfl⟩ := hw
  obtain rfl : v = v9 := hv9.symm
  rw [cw_ext]
  refine g_aload_n K dL_law_403 rfl 2 rfl ?_
  refine g_aload_n K dL_law_404 rfl 0 rfl ?_
  refine g_iload_n K dL_law_405 rfl 3 rfl ?_
  refine g_iconst (v := 1) K dL_law_406 (by decide) ?_
  refine g_iadd K dL_law_407 ?_
  refine gL_sld K hX hbl hbA (l_in hi6 hL (k := 1) (by decide)) hx1 dL_law_408 ?_
  refine g_aload_n K dL_law_409 rfl 0 rfl ?_
  refine g_iload_n K dL_law_410 rfl 3 rfl ?_
  refine g_iconst (v := 2) K dL_law_411 (by decide) ?_
  refine g_iadd K dL_law_412 ?_
  refine gL_sld K hX hbl hbA (l_in hi6 hL (k := 2) (by decide)) hx2 dL_law_413 ?_
  refine g_r3 ?_
  rw [← mw_ext (fl := [])]
  refine g_cutVi (As := [.int x1, .int x2]) (bytes := cX12_move) (maxL := 4) (ret := (some .int)) K [] (_ ++ fl) (ctX12_move (E := gExt (g_E Γ) []) (m := m) (r := rm) o A x1 x2 (res := (v, t)) e2) 0 rfl rfl rfl (gu_V u_1143 u_1144 u_1145 u_75 u_1146) rfl qv_X12_move hRm rfl rfl rfl (by decide) (Nat.le_of_ble_eq_true rfl) ⟨by show cl + 0 + 0 ≤ 600000; omega, by show sl + 0 + 0 ≤ 7302250; omega⟩ dL_law_414 (fun u9 w9 hw => ?_)
  obtain ⟨hv9, rfl⟩ := hw
  obtain rfl : v = u9 := hv9.symm
  rw [mw_ext]
  refine g_r4 ?_
  refine g_icmp_eq (tgt := 1080) K dL_law_417 (by decide) (fun _ => ?_) (fun qh => absurd rfl qh)
  exact g_wid (by omega) (by omega) (kn _ ⟨F, fl, _, _, _, _, _, _, _, _, _, _, _, _, _, _, _, _, _, _, _, _, rfl, hF, hPL, hW, hhi, hk2, ho4, hTR⟩)

set_option maxHeartbeats 4000000 in
set_option maxRecDepth 100000 in
theorem law_set {Γ : gT} {b L : Nat} {xs : Nat → Int32} {q : Nat → Nat} {r : Nat → Nat → Nat} {m : Nat} {rm : Nat → Nat} (H : LK Γ b L xs) {i : Nat} (hi6 : i + 6 ≤ L) {cl sl : Nat} {ws : va_W} (hc : cl + 10 ≤ 600000) (hs : sl + 311 ≤ 7302250) (hLI : LI (g_E Γ) q r m rm ws) (kn : ∀ ws', LI (g_E Γ) q r m rm ws' → gGO Γ (cl + 10) (sl + 311) 1080 [(0, .ref b), (1, .ref (q 5)), (2, .ref m), (3, .int (nI i))] [] ws') : gGO Γ cl sl 422 [(0, .ref b), (1, .ref (q 5)), (2, .ref m), (3, .int (nI i))] [] ws := by
  obtain ⟨K, hRm, hn4, hfz, hX, hbl, hbA, hL⟩ := H
  obtain ⟨x1, hx1⟩ : ∃ x, xs (nI i + nI 1).toNatClampNeg = x := ⟨_, rfl⟩
  obtain ⟨x2, hx2⟩ : ∃ x, xs (nI i + nI 2).toNatClampNeg = x := ⟨_, rfl⟩
  obtain ⟨x3, hx3⟩ : ∃ x, xs (nI i + nI 3).toNatClampNeg = x := ⟨_, rfl⟩
  obtain ⟨F, fl, o0, A0, C0, h0, o1, A1, C1, h1, o2, A2, C2, h2, gs, gA, tb, tA, bf, hi, o, A, rfl, hF, hPL, hSW, hhi, hk2, ho4, hTR⟩ := hLI
  obtain ⟨⟨W, C, y, Hn, R, T, hS⟩, hR⟩ := id hSW
  obtain ⟨v, w8, w9, w11, t, e1, e2, hW⟩ := m_set hS hR x1 x2 x3
  refine g_aload_n K dL_law_422 rfl 1 rfl ?_
  refine g_aload_n K dL_law_423 rfl 0 rfl ?_
  refine g_iload_n K dL_law_424 rfl 3 rfl ?_
  refine g_iconst (v := 1) K dL_law_425 (by decide) ?_
  refine g_iadd K dL_law_426 ?_
  refine gL_sld K hX hbl hbA (l_in hi6 hL (k := 1) (by decide)) hx1 dL_law_427 ?_
  refine g_aload_n K dL_law_428 rfl 0 rfl ?_
  refine g_iload_n K dL_law_429 rfl 3 rfl ?_
  refine g_iconst (v := 2) K dL_law_430 (by decide) ?_
  refine g_iadd K dL_law_431 ?_
  refine gL_sld K hX hbl hbA (l_in hi6 hL (k := 2) (by decide)) hx2 dL_law_432 ?_
  refine g_aload_n K dL_law_433 rfl 0 rfl ?_
  refine g_iload_n K dL_law_434 rfl 3 rfl ?_
  refine g_iconst (v := 3) K dL_law_435 (by decide) ?_
  refine g_iadd K dL_law_436 ?_
  refine gL_sld K hX hbl hbA (l_in hi6 hL (k := 3) (by decide)) hx3 dL_law_437 ?_
  rw [← cw_ext (fl := fl)]
  refine g_cutVi (As := [.int x1, .int x2, .int x3]) (bytes := cX11_set) (maxL := 6) (ret := (some .int)) K fl (mw (g_E Γ) m rm o A) (ctX11_set (E := gExt (g_E Γ) fl) (q := q) (r := r) hF o0 A0 C0 h0 o1 A1 C1 h1 o2 A2 C2 h2 gs gA tb tA bf hi x1 x2 x3 (res := (v, w8, w9, w11)) e1) 0 rfl rfl rfl (gu_V u_733 u_734 u_735 u_68 u_736) rfl qv_X11_set hRm rfl rfl rfl (by decide) (Nat.le_of_ble_eq_true rfl) ⟨by show cl + 0 ≤ 600000; omega, by show sl + 0 ≤ 7302250; omega⟩ dL_law_438 (fun v9 w9 hw => ?_)
  obtain ⟨hv9, rfl⟩ := hw
  obtain rfl : v = v9 := hv9.symm
  rw [cw_ext]
  refine g_aload_n K dL_law_441 rfl 2 rfl ?_
  refine g_aload_n K dL_law_442 rfl 0 rfl ?_
  refine g_iload_n K dL_law_443 rfl 3 rfl ?_
  refine g_iconst (v := 1) K dL_law_444 (by decide) ?_
  refine g_iadd K dL_law_445 ?_
  refine gL_sld K hX hbl hbA (l_in hi6 hL (k := 1) (by decide)) hx1 dL_law_446 ?_
  refine g_aload_n K dL_law_447 rfl 0 rfl ?_
  refine g_iload_n K dL_law_448 rfl 3 rfl ?_
  refine g_iconst (v := 2) K dL_law_449 (by decide) ?_
  refine g_iadd K dL_law_450 ?_
  refine gL_sld K hX hbl hbA (l_in hi6 hL (k := 2) (by decide)) hx2 dL_law_451 ?_
  refine g_aload_n K dL_law_452 rfl 0 rfl ?_
  refine g_iload_n K dL_law_453 rfl 3 rfl ?_
  refine g_iconst (v := 3) K dL_law_454 (by decide) ?_
  refine g_iadd K dL_law_455 ?_
  refine gL_sld K hX hbl hbA (l_in hi6 hL (k := 3) (by decide)) hx3 dL_law_456 ?_
  refine g_r3 ?_
  rw [← mw_ext (fl := [])]
  refine g_cutVi (As := [.int x1, .int x2, .int x3]) (bytes := cX12_set) (maxL := 6) (ret := (some .int)) K [] (_ ++ fl) (ctX12_set (E := gExt (g_E Γ) []) (m := m) (r := rm) o A x1 x2 x3 (res := (v, t)) e2) 0 rfl rfl rfl (gu_V u_1151 u_1152 u_1153 u_75 u_1154) rfl qv_X12_set hRm rfl rfl rfl (by decide) (Nat.le_of_ble_eq_true rfl) ⟨by show cl + 0 + 0 ≤ 600000; omega, by show sl + 0 + 0 ≤ 7302250; omega⟩ dL_law_457 (fun u9 w9 hw => ?_)
  obtain ⟨hv9, rfl⟩ := hw
  obtain rfl : v = u9 := hv9.symm
  rw [mw_ext]
  refine g_r4 ?_
  refine g_icmp_eq (tgt := 1080) K dL_law_460 (by decide) (fun _ => ?_) (fun qh => absurd rfl qh)
  exact g_wid (by omega) (by omega) (kn _ ⟨F, fl, _, _, _, _, _, _, _, _, _, _, _, _, _, _, _, _, _, _, _, _, rfl, hF, hPL, hW, hhi, hk2, ho4, hTR⟩)

set_option maxHeartbeats 4000000 in
set_option maxRecDepth 100000 in
theorem law_fresh {Γ : gT} {b L : Nat} {xs : Nat → Int32} {q : Nat → Nat} {r : Nat → Nat → Nat} {m : Nat} {rm : Nat → Nat} (H : LK Γ b L xs) {i : Nat} (hi6 : i + 6 ≤ L) {cl sl : Nat} {ws : va_W} (hc : cl + 10 ≤ 600000) (hs : sl + 311 ≤ 7302250) (hLI : LI (g_E Γ) q r m rm ws) (kn : ∀ ws', LI (g_E Γ) q r m rm ws' → gGO Γ (cl + 10) (sl + 311) 1080 [(0, .ref b), (1, .ref (q 5)), (2, .ref m), (3, .int (nI i))] [] ws') : gGO Γ cl sl 465 [(0, .ref b), (1, .ref (q 5)), (2, .ref m), (3, .int (nI i))] [] ws := by
  obtain ⟨K, hRm, hn4, hfz, hX, hbl, hbA, hL⟩ := H
  obtain ⟨x1, hx1⟩ : ∃ x, xs (nI i + nI 1).toNatClampNeg = x := ⟨_, rfl⟩
  obtain ⟨x2, hx2⟩ : ∃ x, xs (nI i + nI 2).toNatClampNeg = x := ⟨_, rfl⟩
  obtain ⟨F, fl, o0, A0, C0, h0, o1, A1, C1, h1, o2, A2, C2, h2, gs, gA, tb, tA, bf, hi, o, A, rfl, hF, hPL, hSW, hhi, hk2, ho4, hTR⟩ := hLI
  obtain ⟨⟨W, C, y, Hn, R, T, hS⟩, hR⟩ := id hSW
  obtain ⟨v, w6, w7, t, e1, e2, hW⟩ := m_fresh hS hR x1 x2
  refine g_aload_n K dL_law_465 rfl 1 rfl ?_
  refine g_aload_n K dL_law_466 rfl 0 rfl ?_
  refine g_iload_n K dL_law_467 rfl 3 rfl ?_
  refine g_iconst (v := 1) K dL_law_468 (by decide) ?_
  refine g_iadd K dL_law_469 ?_
  refine gL_sld K hX hbl hbA (l_in hi6 hL (k := 1) (by decide)) hx1 dL_law_470 ?_
  refine g_aload_n K dL_law_471 rfl 0 rfl ?_
  refine g_iload_n K dL_law_472 rfl 3 rfl ?_
  refine g_iconst (v := 2) K dL_law_473 (by decide) ?_
  refine g_iadd K dL_law_474 ?_
  refine gL_sld K hX hbl hbA (l_in hi6 hL (k := 2) (by decide)) hx2 dL_law_475 ?_
  rw [← cw_ext (fl := fl)]
  refine g_cutVi (As := [.int x1, .int x2]) (bytes := cX11_fresh) (maxL := 4) (ret := (some .int)) K fl (mw (g_E Γ) m rm o A) (ctX11_fresh (E := gExt (g_E Γ) fl) (q := q) (r := r) hF o0 A0 C0 h0 o1 A1 C1 h1 o2 A2 C2 h2 gs gA tb tA bf hi x1 x2 (res := (v, w6, w7)) e1) 0 rfl rfl rfl (gu_V u_737 u_738 u_739 u_68 u_740) rfl qv_X11_fresh hRm rfl rfl rfl (by decide) (Nat.le_of_ble_eq_true rfl) ⟨by show cl + 0 ≤ 600000; omega, by show sl + 0 ≤ 7302250; omega⟩ dL_law_476 (fun v9 w9 hw => ?_)
  obtain ⟨hv9, rfl⟩ := hw
  obtain rfl : v = v9 := hv9.symm
  rw [cw_ext]
  refine g_aload_n K dL_law_479 rfl 2 rfl ?_
  refine g_aload_n K dL_law_480 rfl 0 rfl ?_
  refine g_iload_n K dL_law_481 rfl 3 rfl ?_
  refine g_iconst (v := 1) K dL_law_482 (by decide) ?_
  refine g_iadd K dL_law_483 ?_
  refine gL_sld K hX hbl hbA (l_in hi6 hL (k := 1) (by decide)) hx1 dL_law_484 ?_
  refine g_aload_n K dL_law_485 rfl 0 rfl ?_
  refine g_iload_n K dL_law_486 rfl 3 rfl ?_
  refine g_iconst (v := 2) K dL_law_487 (by decide) ?_
  refine g_iadd K dL_law_488 ?_
  refine gL_sld K hX hbl hbA (l_in hi6 hL (k := 2) (by decide)) hx2 dL_law_489 ?_
  refine g_r3 ?_
  rw [← mw_ext (fl := [])]
  refine g_cutVi (As := [.int x1, .int x2]) (bytes := cX12_fresh) (maxL := 4) (ret := (some .int)) K [] (_ ++ fl) (ctX12_fresh (E := gExt (g_E Γ) []) (m := m) (r := rm) o A x1 x2 (res := (v, t)) e2) 0 rfl rfl rfl (gu_V u_1155 u_1156 u_1157 u_75 u_1158) rfl qv_X12_fresh hRm rfl rfl rfl (by decide) (Nat.le_of_ble_eq_true rfl) ⟨by show cl + 0 + 0 ≤ 600000; omega, by show sl + 0 + 0 ≤ 7302250; omega⟩ dL_law_490 (fun u9 w9 hw => ?_)
  obtain ⟨hv9, rfl⟩ := hw
  obtain rfl : v = u9 := hv9.symm
  rw [mw_ext]
  refine g_r4 ?_
  refine g_icmp_eq (tgt := 1080) K dL_law_493 (by decide) (fun _ => ?_) (fun qh => absurd rfl qh)
  exact g_wid (by omega) (by omega) (kn _ ⟨F, fl, _, _, _, _, _, _, _, _, _, _, _, _, _, _, _, _, _, _, _, _, rfl, hF, hPL, hW, hhi, hk2, ho4, hTR⟩)

set_option maxHeartbeats 4000000 in
set_option maxRecDepth 100000 in
theorem law_mark {Γ : gT} {b L : Nat} {xs : Nat → Int32} {q : Nat → Nat} {r : Nat → Nat → Nat} {m : Nat} {rm : Nat → Nat} (H : LK Γ b L xs) {i : Nat} (hi6 : i + 6 ≤ L) {cl sl : Nat} {ws : va_W} (hc : cl + 10 ≤ 600000) (hs : sl + 311 ≤ 7302250) (hLI : LI (g_E Γ) q r m rm ws) (kn : ∀ ws', LI (g_E Γ) q r m rm ws' → gGO Γ (cl + 10) (sl + 311) 1080 [(0, .ref b), (1, .ref (q 5)), (2, .ref m), (3, .int (nI i))] [] ws') : gGO Γ cl sl 498 [(0, .ref b), (1, .ref (q 5)), (2, .ref m), (3, .int (nI i))] [] ws := by
  obtain ⟨K, hRm, hn4, hfz, hX, hbl, hbA, hL⟩ := H
  obtain ⟨x1, hx1⟩ : ∃ x, xs (nI i + nI 1).toNatClampNeg = x := ⟨_, rfl⟩
  obtain ⟨x2, hx2⟩ : ∃ x, xs (nI i + nI 2).toNatClampNeg = x := ⟨_, rfl⟩
  obtain ⟨F, fl, o0, A0, C0, h0, o1, A1, C1, h1, o2, A2, C2, h2, gs, gA, tb, tA, bf, hi, o, A, rfl, hF, hPL, hSW, hhi, hk2, ho4, hTR⟩ := hLI
  obtain ⟨⟨W, C, y, Hn, R, T, hS⟩, hR⟩ := id hSW
  obtain ⟨v, f5, b10, b11, e1, e2⟩ := m_mark hS hR (gA 5) (A 10) (A 11) x1 x2
  refine g_aload_n K dL_law_498 rfl 1 rfl ?_
  refine g_aload_n K dL_law_499 rfl 0 rfl ?_
  refine g_iload_n K dL_law_500 rfl 3 rfl ?_
  refine g_iconst (v := 1) K dL_law_501 (by decide) ?_
  refine g_iadd K dL_law_502 ?_
  refine gL_sld K hX hbl hbA (l_in hi6 hL (k := 1) (by decide)) hx1 dL_law_503 ?_
  refine g_aload_n K dL_law_504 rfl 0 rfl ?_
  refine g_iload_n K dL_law_505 rfl 3 rfl ?_
  refine g_iconst (v := 2) K dL_law_506 (by decide) ?_
  refine g_iadd K dL_law_507 ?_
  refine gL_sld K hX hbl hbA (l_in hi6 hL (k := 2) (by decide)) hx2 dL_law_508 ?_
  rw [← cw_ext (fl := fl)]
  refine g_cutVi (As := [.int x1, .int x2]) (bytes := cX11_mark) (maxL := 4) (ret := (some .int)) K fl (mw (g_E Γ) m rm o A) (ctX11_mark (E := gExt (g_E Γ) fl) (q := q) (r := r) hF o0 A0 C0 h0 o1 A1 C1 h1 o2 A2 C2 h2 gs gA tb tA bf hi x1 x2 (res := (v, f5)) e1) 0 rfl rfl rfl (gu_V u_741 u_609 u_610 u_68 u_611) rfl qv_X11_mark hRm rfl rfl rfl (by decide) (Nat.le_of_ble_eq_true rfl) ⟨by show cl + 0 ≤ 600000; omega, by show sl + 0 ≤ 7302250; omega⟩ dL_law_509 (fun v9 w9 hw => ?_)
  obtain ⟨hv9, rfl⟩ := hw
  obtain rfl : v = v9 := hv9.symm
  rw [cw_ext]
  refine g_aload_n K dL_law_512 rfl 2 rfl ?_
  refine g_aload_n K dL_law_513 rfl 0 rfl ?_
  refine g_iload_n K dL_law_514 rfl 3 rfl ?_
  refine g_iconst (v := 1) K dL_law_515 (by decide) ?_
  refine g_iadd K dL_law_516 ?_
  refine gL_sld K hX hbl hbA (l_in hi6 hL (k := 1) (by decide)) hx1 dL_law_517 ?_
  refine g_aload_n K dL_law_518 rfl 0 rfl ?_
  refine g_iload_n K dL_law_519 rfl 3 rfl ?_
  refine g_iconst (v := 2) K dL_law_520 (by decide) ?_
  refine g_iadd K dL_law_521 ?_
  refine gL_sld K hX hbl hbA (l_in hi6 hL (k := 2) (by decide)) hx2 dL_law_522 ?_
  refine g_r3 ?_
  rw [← mw_ext (fl := [])]
  refine g_cutVi (As := [.int x1, .int x2]) (bytes := cX12_mark) (maxL := 3) (ret := (some .int)) K [] (_ ++ fl) (ctX12_mark (E := gExt (g_E Γ) []) (m := m) (r := rm) o A x1 x2 (res := (v, b10, b11)) e2) 0 rfl rfl rfl (gu_V u_1222 u_1223 u_1224 u_75 u_1225) rfl qv_X12_mark hRm rfl rfl rfl (by decide) (Nat.le_of_ble_eq_true rfl) ⟨by show cl + 0 + 0 ≤ 600000; omega, by show sl + 0 + 0 ≤ 7302250; omega⟩ dL_law_523 (fun u9 w9 hw => ?_)
  obtain ⟨hv9, rfl⟩ := hw
  obtain rfl : v = u9 := hv9.symm
  rw [mw_ext]
  refine g_r4 ?_
  refine g_icmp_eq (tgt := 1080) K dL_law_526 (by decide) (fun _ => ?_) (fun qh => absurd rfl qh)
  exact g_wid (by omega) (by omega) (kn _ ⟨F, fl, _, _, _, _, _, _, _, _, _, _, _, _, _, _, _, _, _, _, _, _, rfl, hF, hPL, ⟨⟨W, C, y, Hn, R, T, hS⟩, hR⟩, hhi, hk2, ho4, hTR⟩)

set_option maxHeartbeats 4000000 in
set_option maxRecDepth 100000 in
theorem law_wrong {Γ : gT} {b L : Nat} {xs : Nat → Int32} {q : Nat → Nat} {r : Nat → Nat → Nat} {m : Nat} {rm : Nat → Nat} (H : LK Γ b L xs) {i : Nat} (hi6 : i + 6 ≤ L) {cl sl : Nat} {ws : va_W} (hc : cl + 10 ≤ 600000) (hs : sl + 311 ≤ 7302250) (hLI : LI (g_E Γ) q r m rm ws) (kn : ∀ ws', LI (g_E Γ) q r m rm ws' → gGO Γ (cl + 10) (sl + 311) 1080 [(0, .ref b), (1, .ref (q 5)), (2, .ref m), (3, .int (nI i))] [] ws') : gGO Γ cl sl 531 [(0, .ref b), (1, .ref (q 5)), (2, .ref m), (3, .int (nI i))] [] ws := by
  obtain ⟨K, hRm, hn4, hfz, hX, hbl, hbA, hL⟩ := H
  obtain ⟨x1, hx1⟩ : ∃ x, xs (nI i + nI 1).toNatClampNeg = x := ⟨_, rfl⟩
  obtain ⟨F, fl, o0, A0, C0, h0, o1, A1, C1, h1, o2, A2, C2, h2, gs, gA, tb, tA, bf, hi, o, A, rfl, hF, hPL, hSW, hhi, hk2, ho4, hTR⟩ := hLI
  obtain ⟨⟨W, C, y, Hn, R, T, hS⟩, hR⟩ := id hSW
  obtain ⟨v, fs, f0, f1, f2, f3, f5, b1, b10, b11, b12, b13, b14, b15, e1, e2⟩ := m_wrong hS hR hPL gs (gA 0) (gA 1) (gA 2) (gA 3) (gA 5) bf (A 10) (A 11) (A 12) (A 13) (A 14) (A 15) x1
  refine g_aload_n K dL_law_531 rfl 1 rfl ?_
  refine g_aload_n K dL_law_532 rfl 0 rfl ?_
  refine g_iload_n K dL_law_533 rfl 3 rfl ?_
  refine g_iconst (v := 1) K dL_law_534 (by decide) ?_
  refine g_iadd K dL_law_535 ?_
  refine gL_sld K hX hbl hbA (l_in hi6 hL (k := 1) (by decide)) hx1 dL_law_536 ?_
  rw [← cw_ext (fl := fl)]
  refine g_cutVi (As := [.int x1]) (bytes := cX11_wrong) (maxL := 7) (ret := (some .int)) K fl (mw (g_E Γ) m rm o A) (ctX11_wrong (E := gExt (g_E Γ) fl) (q := q) (r := r) hF o0 A0 C0 h0 o1 A1 C1 h1 o2 A2 C2 h2 gs gA tb tA bf hi x1 (res := (v, fs, f0, f1, f2, f3, f5, b1)) e1) 0 rfl rfl rfl (gu_V u_742 u_743 u_744 u_68 u_745) rfl qv_X11_wrong hRm rfl rfl rfl (by decide) (Nat.le_of_ble_eq_true rfl) ⟨by show cl + 0 ≤ 600000; omega, by show sl + 0 ≤ 7302250; omega⟩ dL_law_537 (fun v9 w9 hw => ?_)
  obtain ⟨hv9, rfl⟩ := hw
  obtain rfl : v = v9 := hv9.symm
  rw [cw_ext]
  refine g_aload_n K dL_law_540 rfl 2 rfl ?_
  refine g_aload_n K dL_law_541 rfl 0 rfl ?_
  refine g_iload_n K dL_law_542 rfl 3 rfl ?_
  refine g_iconst (v := 1) K dL_law_543 (by decide) ?_
  refine g_iadd K dL_law_544 ?_
  refine gL_sld K hX hbl hbA (l_in hi6 hL (k := 1) (by decide)) hx1 dL_law_545 ?_
  refine g_r3 ?_
  rw [← mw_ext (fl := [])]
  refine g_cutVi (As := [.int x1]) (bytes := cX12_wrong) (maxL := 6) (ret := (some .int)) K [] (_ ++ fl) (ctX12_wrong (E := gExt (g_E Γ) []) (m := m) (r := rm) o A x1 (res := (v, b10, b11, b12, b13, b14, b15)) e2) 0 rfl rfl rfl (gu_V u_1226 u_1227 u_1228 u_75 u_1229) rfl qv_X12_wrong hRm rfl rfl rfl (by decide) (Nat.le_of_ble_eq_true rfl) ⟨by show cl + 0 + 0 ≤ 600000; omega, by show sl + 0 + 0 ≤ 7302250; omega⟩ dL_law_546 (fun u9 w9 hw => ?_)
  obtain ⟨hv9, rfl⟩ := hw
  obtain rfl : v = u9 := hv9.symm
  rw [mw_ext]
  refine g_r4 ?_
  refine g_icmp_eq (tgt := 1080) K dL_law_549 (by decide) (fun _ => ?_) (fun qh => absurd rfl qh)
  exact g_wid (by omega) (by omega) (kn _ ⟨F, fl, _, _, _, _, _, _, _, _, _, _, _, _, _, _, _, _, _, _, _, _, rfl, hF, hPL, ⟨⟨W, C, y, Hn, R, T, hS⟩, hR⟩, hhi, hk2, ho4, hTR⟩)

set_option maxHeartbeats 4000000 in
set_option maxRecDepth 100000 in
theorem law_moved {Γ : gT} {b L : Nat} {xs : Nat → Int32} {q : Nat → Nat} {r : Nat → Nat → Nat} {m : Nat} {rm : Nat → Nat} (H : LK Γ b L xs) {i : Nat} (hi6 : i + 6 ≤ L) {cl sl : Nat} {ws : va_W} (hc : cl + 10 ≤ 600000) (hs : sl + 311 ≤ 7302250) (hLI : LI (g_E Γ) q r m rm ws) (kn : ∀ ws', LI (g_E Γ) q r m rm ws' → gGO Γ (cl + 10) (sl + 311) 1080 [(0, .ref b), (1, .ref (q 5)), (2, .ref m), (3, .int (nI i))] [] ws') : gGO Γ cl sl 554 [(0, .ref b), (1, .ref (q 5)), (2, .ref m), (3, .int (nI i))] [] ws := by
  obtain ⟨K, hRm, hn4, hfz, hX, hbl, hbA, hL⟩ := H
  obtain ⟨x1, hx1⟩ : ∃ x, xs (nI i + nI 1).toNatClampNeg = x := ⟨_, rfl⟩
  obtain ⟨x2, hx2⟩ : ∃ x, xs (nI i + nI 2).toNatClampNeg = x := ⟨_, rfl⟩
  obtain ⟨F, fl, o0, A0, C0, h0, o1, A1, C1, h1, o2, A2, C2, h2, gs, gA, tb, tA, bf, hi, o, A, rfl, hF, hPL, hSW, hhi, hk2, ho4, hTR⟩ := hLI
  obtain ⟨⟨W, C, y, Hn, R, T, hS⟩, hR⟩ := id hSW
  obtain ⟨v, rr, rr2, e1, e2⟩ := m_moved hS hR (o1 0) (o1 1) (o1 2) (o1 3) (o1 4) (o1 5) (o1 6) (o1 7) (A1 8) (A1 9) (A1 10) (A1 11) (A1 12) (A1 14) (A1 15) (A1 16) (A1 17) h1 C1 gs (gA 0) (gA 1) (gA 2) (gA 3) (gA 5) (A 10) (A 11) (A 12) (A 13) (A 15) x1 x2
  refine g_aload_n K dL_law_554 rfl 1 rfl ?_
  refine g_aload_n K dL_law_555 rfl 0 rfl ?_
  refine g_iload_n K dL_law_556 rfl 3 rfl ?_
  refine g_iconst (v := 1) K dL_law_557 (by decide) ?_
  refine g_iadd K dL_law_558 ?_
  refine gL_sld K hX hbl hbA (l_in hi6 hL (k := 1) (by decide)) hx1 dL_law_559 ?_
  refine g_aload_n K dL_law_560 rfl 0 rfl ?_
  refine g_iload_n K dL_law_561 rfl 3 rfl ?_
  refine g_iconst (v := 2) K dL_law_562 (by decide) ?_
  refine g_iadd K dL_law_563 ?_
  refine gL_sld K hX hbl hbA (l_in hi6 hL (k := 2) (by decide)) hx2 dL_law_564 ?_
  rw [← cw_ext (fl := fl)]
  refine g_cutVi (As := [.int x1, .int x2]) (bytes := cX11_moved) (maxL := 4) (ret := (some .int)) K fl (mw (g_E Γ) m rm o A) (ctX11_moved (E := gExt (g_E Γ) fl) (q := q) (r := r) hF o0 A0 C0 h0 o1 A1 C1 h1 o2 A2 C2 h2 gs gA tb tA bf hi x1 x2 (res := (v, rr)) e1) 0 rfl rfl rfl (gu_V u_753 u_754 u_755 u_68 u_756) rfl qv_X11_moved hRm rfl rfl rfl (by decide) (Nat.le_of_ble_eq_true rfl) ⟨by show cl + 0 ≤ 600000; omega, by show sl + 0 ≤ 7302250; omega⟩ dL_law_565 (fun v9 w9 hw => ?_)
  obtain ⟨hv9, rfl⟩ := hw
  obtain rfl : v = v9 := hv9.symm
  rw [cw_ext]
  refine g_aload_n K dL_law_568 rfl 2 rfl ?_
  refine g_aload_n K dL_law_569 rfl 0 rfl ?_
  refine g_iload_n K dL_law_570 rfl 3 rfl ?_
  refine g_iconst (v := 1) K dL_law_571 (by decide) ?_
  refine g_iadd K dL_law_572 ?_
  refine gL_sld K hX hbl hbA (l_in hi6 hL (k := 1) (by decide)) hx1 dL_law_573 ?_
  refine g_aload_n K dL_law_574 rfl 0 rfl ?_
  refine g_iload_n K dL_law_575 rfl 3 rfl ?_
  refine g_iconst (v := 2) K dL_law_576 (by decide) ?_
  refine g_iadd K dL_law_577 ?_
  refine gL_sld K hX hbl hbA (l_in hi6 hL (k := 2) (by decide)) hx2 dL_law_578 ?_
  refine g_r3 ?_
  rw [← mw_ext (fl := [])]
  refine g_cutVi (As := [.int x1, .int x2]) (bytes := cX12_moved) (maxL := 3) (ret := (some .int)) K [] (_ ++ fl) (ctX12_moved (E := gExt (g_E Γ) []) (m := m) (r := rm) o A x1 x2 (res := (v, A 1, rr2)) e2) 0 rfl rfl rfl (gu_V u_1230 u_1231 u_1232 u_75 u_1233) rfl qv_X12_moved hRm rfl rfl rfl (by decide) (Nat.le_of_ble_eq_true rfl) ⟨by show cl + 0 + 0 ≤ 600000; omega, by show sl + 0 + 0 ≤ 7302250; omega⟩ dL_law_579 (fun u9 w9 hw => ?_)
  obtain ⟨hv9, rfl⟩ := hw
  obtain rfl : v = u9 := hv9.symm
  rw [mw_ext]
  refine g_r4 ?_
  refine g_icmp_eq (tgt := 1080) K dL_law_582 (by decide) (fun _ => ?_) (fun qh => absurd rfl qh)
  exact g_wid (by omega) (by omega) (kn _ ⟨F, fl, _, _, _, _, _, _, _, _, _, _, _, _, _, _, _, _, _, _, _, _, rfl, hF, hPL, ⟨⟨W, C, y, Hn, R, T, hS⟩, hR⟩, hhi, hk2, ho4, hTR⟩)

set_option maxHeartbeats 4000000 in
set_option maxRecDepth 100000 in
theorem law_best {Γ : gT} {b L : Nat} {xs : Nat → Int32} {q : Nat → Nat} {r : Nat → Nat → Nat} {m : Nat} {rm : Nat → Nat} (H : LK Γ b L xs) {i : Nat} (hi6 : i + 6 ≤ L) {cl sl : Nat} {ws : va_W} (hc : cl + 10 ≤ 600000) (hs : sl + 311 ≤ 7302250) (hLI : LI (g_E Γ) q r m rm ws) (kn : ∀ ws', LI (g_E Γ) q r m rm ws' → gGO Γ (cl + 10) (sl + 311) 1080 [(0, .ref b), (1, .ref (q 5)), (2, .ref m), (3, .int (nI i))] [] ws') : gGO Γ cl sl 587 [(0, .ref b), (1, .ref (q 5)), (2, .ref m), (3, .int (nI i))] [] ws := by
  obtain ⟨K, hRm, hn4, hfz, hX, hbl, hbA, hL⟩ := H
  obtain ⟨x1, hx1⟩ : ∃ x, xs (nI i + nI 1).toNatClampNeg = x := ⟨_, rfl⟩
  obtain ⟨x2, hx2⟩ : ∃ x, xs (nI i + nI 2).toNatClampNeg = x := ⟨_, rfl⟩
  obtain ⟨F, fl, o0, A0, C0, h0, o1, A1, C1, h1, o2, A2, C2, h2, gs, gA, tb, tA, bf, hi, o, A, rfl, hF, hPL, hSW, hhi, hk2, ho4, hTR⟩ := hLI
  obtain ⟨⟨W, C, y, Hn, R, T, hS⟩, hR⟩ := id hSW
  obtain ⟨v, rr, rr2, e1, e2⟩ := m_best hS hR (o1 0) (o1 1) (o1 2) (o1 3) (o1 4) (o1 5) (o1 6) (o1 7) (A1 8) (A1 9) (A1 10) (A1 11) (A1 12) (A1 14) (A1 15) (A1 16) (A1 17) h1 C1 gs (gA 0) (gA 1) (gA 2) (gA 3) (gA 5) (A 10) (A 11) (A 12) (A 13) (A 15) x1 x2
  refine g_aload_n K dL_law_587 rfl 1 rfl ?_
  refine g_aload_n K dL_law_588 rfl 0 rfl ?_
  refine g_iload_n K dL_law_589 rfl 3 rfl ?_
  refine g_iconst (v := 1) K dL_law_590 (by decide) ?_
  refine g_iadd K dL_law_591 ?_
  refine gL_sld K hX hbl hbA (l_in hi6 hL (k := 1) (by decide)) hx1 dL_law_592 ?_
  refine g_aload_n K dL_law_593 rfl 0 rfl ?_
  refine g_iload_n K dL_law_594 rfl 3 rfl ?_
  refine g_iconst (v := 2) K dL_law_595 (by decide) ?_
  refine g_iadd K dL_law_596 ?_
  refine gL_sld K hX hbl hbA (l_in hi6 hL (k := 2) (by decide)) hx2 dL_law_597 ?_
  rw [← cw_ext (fl := fl)]
  refine g_cutVi (As := [.int x1, .int x2]) (bytes := cX11_best) (maxL := 8) (ret := (some .int)) K fl (mw (g_E Γ) m rm o A) (ctX11_best (E := gExt (g_E Γ) fl) (q := q) (r := r) hF o0 A0 C0 h0 o1 A1 C1 h1 o2 A2 C2 h2 gs gA tb tA bf hi x1 x2 (res := (v, rr)) e1) 0 rfl rfl rfl (gu_V u_766 u_767 u_768 u_68 u_769) rfl qv_X11_best hRm rfl rfl rfl (by decide) (Nat.le_of_ble_eq_true rfl) ⟨by show cl + 0 ≤ 600000; omega, by show sl + 0 ≤ 7302250; omega⟩ dL_law_598 (fun v9 w9 hw => ?_)
  obtain ⟨hv9, rfl⟩ := hw
  obtain rfl : v = v9 := hv9.symm
  rw [cw_ext]
  refine g_aload_n K dL_law_601 rfl 2 rfl ?_
  refine g_aload_n K dL_law_602 rfl 0 rfl ?_
  refine g_iload_n K dL_law_603 rfl 3 rfl ?_
  refine g_iconst (v := 1) K dL_law_604 (by decide) ?_
  refine g_iadd K dL_law_605 ?_
  refine gL_sld K hX hbl hbA (l_in hi6 hL (k := 1) (by decide)) hx1 dL_law_606 ?_
  refine g_aload_n K dL_law_607 rfl 0 rfl ?_
  refine g_iload_n K dL_law_608 rfl 3 rfl ?_
  refine g_iconst (v := 2) K dL_law_609 (by decide) ?_
  refine g_iadd K dL_law_610 ?_
  refine gL_sld K hX hbl hbA (l_in hi6 hL (k := 2) (by decide)) hx2 dL_law_611 ?_
  refine g_r3 ?_
  rw [← mw_ext (fl := [])]
  refine g_cutVi (As := [.int x1, .int x2]) (bytes := cX12_best) (maxL := 7) (ret := (some .int)) K [] (_ ++ fl) (ctX12_best (E := gExt (g_E Γ) []) (m := m) (r := rm) o A x1 x2 (res := (v, A 1, rr2)) e2) 0 rfl rfl rfl (gu_V u_1238 u_1239 u_1240 u_75 u_1241) rfl qv_X12_best hRm rfl rfl rfl (by decide) (Nat.le_of_ble_eq_true rfl) ⟨by show cl + 0 + 0 ≤ 600000; omega, by show sl + 0 + 0 ≤ 7302250; omega⟩ dL_law_612 (fun u9 w9 hw => ?_)
  obtain ⟨hv9, rfl⟩ := hw
  obtain rfl : v = u9 := hv9.symm
  rw [mw_ext]
  refine g_r4 ?_
  refine g_icmp_eq (tgt := 1080) K dL_law_615 (by decide) (fun _ => ?_) (fun qh => absurd rfl qh)
  exact g_wid (by omega) (by omega) (kn _ ⟨F, fl, _, _, _, _, _, _, _, _, _, _, _, _, _, _, _, _, _, _, _, _, rfl, hF, hPL, ⟨⟨W, C, y, Hn, R, T, hS⟩, hR⟩, hhi, hk2, ho4, hTR⟩)

set_option maxHeartbeats 4000000 in
set_option maxRecDepth 100000 in
theorem law_swap {Γ : gT} {b L : Nat} {xs : Nat → Int32} {q : Nat → Nat} {r : Nat → Nat → Nat} {m : Nat} {rm : Nat → Nat} (H : LK Γ b L xs) {i : Nat} (hi6 : i + 6 ≤ L) {cl sl : Nat} {ws : va_W} (hc : cl + 10 ≤ 600000) (hs : sl + 311 ≤ 7302250) (hLI : LI (g_E Γ) q r m rm ws) (kn : ∀ ws', LI (g_E Γ) q r m rm ws' → gGO Γ (cl + 10) (sl + 311) 1080 [(0, .ref b), (1, .ref (q 5)), (2, .ref m), (3, .int (nI i))] [] ws') : gGO Γ cl sl 653 [(0, .ref b), (1, .ref (q 5)), (2, .ref m), (3, .int (nI i))] [] ws := by
  obtain ⟨K, hRm, hn4, hfz, hX, hbl, hbA, hL⟩ := H
  obtain ⟨x1, hx1⟩ : ∃ x, xs (nI i + nI 1).toNatClampNeg = x := ⟨_, rfl⟩
  obtain ⟨F, fl, o0, A0, C0, h0, o1, A1, C1, h1, o2, A2, C2, h2, gs, gA, tb, tA, bf, hi, o, A, rfl, hF, hPL, hSW, hhi, hk2, ho4, hTR⟩ := hLI
  obtain ⟨⟨W, C, y, Hn, R, T, hS⟩, hR⟩ := id hSW
  obtain ⟨v, rr, rr2, e1, e2⟩ := m_swap hS hR (o1 0) (o1 1) (o1 2) (o1 3) (o1 4) (o1 5) (o1 6) (o1 7) (A1 8) (A1 9) (A1 10) (A1 11) (A1 12) (A1 14) (A1 15) (A1 16) (A1 17) h1 C1 gs (gA 0) (gA 1) (gA 2) (gA 3) (gA 5) bf (A 10) (A 11) (A 12) (A 13) (A 15) x1
  refine g_aload_n K dL_law_653 rfl 1 rfl ?_
  refine g_aload_n K dL_law_654 rfl 0 rfl ?_
  refine g_iload_n K dL_law_655 rfl 3 rfl ?_
  refine g_iconst (v := 1) K dL_law_656 (by decide) ?_
  refine g_iadd K dL_law_657 ?_
  refine gL_sld K hX hbl hbA (l_in hi6 hL (k := 1) (by decide)) hx1 dL_law_658 ?_
  rw [← cw_ext (fl := fl)]
  refine g_cutVi (As := [.int x1]) (bytes := cX11_swap) (maxL := 6) (ret := (some .int)) K fl (mw (g_E Γ) m rm o A) (ctX11_swap (E := gExt (g_E Γ) fl) (q := q) (r := r) hF o0 A0 C0 h0 o1 A1 C1 h1 o2 A2 C2 h2 gs gA tb tA bf hi x1 (res := (v, rr)) e1) 0 rfl rfl rfl (gu_V u_775 u_776 u_777 u_68 u_778) rfl qv_X11_swap hRm rfl rfl rfl (by decide) (Nat.le_of_ble_eq_true rfl) ⟨by show cl + 0 ≤ 600000; omega, by show sl + 0 ≤ 7302250; omega⟩ dL_law_659 (fun v9 w9 hw => ?_)
  obtain ⟨hv9, rfl⟩ := hw
  obtain rfl : v = v9 := hv9.symm
  rw [cw_ext]
  refine g_aload_n K dL_law_662 rfl 2 rfl ?_
  refine g_aload_n K dL_law_663 rfl 0 rfl ?_
  refine g_iload_n K dL_law_664 rfl 3 rfl ?_
  refine g_iconst (v := 1) K dL_law_665 (by decide) ?_
  refine g_iadd K dL_law_666 ?_
  refine gL_sld K hX hbl hbA (l_in hi6 hL (k := 1) (by decide)) hx1 dL_law_667 ?_
  refine g_r3 ?_
  rw [← mw_ext (fl := [])]
  refine g_cutVi (As := [.int x1]) (bytes := cX12_swap) (maxL := 9) (ret := (some .int)) K [] (_ ++ fl) (ctX12_swap (E := gExt (g_E Γ) []) (m := m) (r := rm) o A x1 (res := (v, A 1, rr2)) e2) 0 rfl rfl rfl (gu_V u_1246 u_1247 u_1248 u_75 u_1249) rfl qv_X12_swap hRm rfl rfl rfl (by decide) (Nat.le_of_ble_eq_true rfl) ⟨by show cl + 0 + 0 ≤ 600000; omega, by show sl + 0 + 0 ≤ 7302250; omega⟩ dL_law_668 (fun u9 w9 hw => ?_)
  obtain ⟨hv9, rfl⟩ := hw
  obtain rfl : v = u9 := hv9.symm
  rw [mw_ext]
  refine g_r4 ?_
  refine g_icmp_eq (tgt := 1080) K dL_law_671 (by decide) (fun _ => ?_) (fun qh => absurd rfl qh)
  exact g_wid (by omega) (by omega) (kn _ ⟨F, fl, _, _, _, _, _, _, _, _, _, _, _, _, _, _, _, _, _, _, _, _, rfl, hF, hPL, ⟨⟨W, C, y, Hn, R, T, hS⟩, hR⟩, hhi, hk2, ho4, hTR⟩)

set_option maxHeartbeats 4000000 in
set_option maxRecDepth 100000 in
theorem law_year {Γ : gT} {b L : Nat} {xs : Nat → Int32} {q : Nat → Nat} {r : Nat → Nat → Nat} {m : Nat} {rm : Nat → Nat} (H : LK Γ b L xs) {i : Nat} (hi6 : i + 6 ≤ L) {cl sl : Nat} {ws : va_W} (hc : cl + 10 ≤ 600000) (hs : sl + 311 ≤ 7302250) (hLI : LI (g_E Γ) q r m rm ws) (kn : ∀ ws', LI (g_E Γ) q r m rm ws' → gGO Γ (cl + 10) (sl + 311) 1080 [(0, .ref b), (1, .ref (q 5)), (2, .ref m), (3, .int (nI i))] [] ws') : gGO Γ cl sl 676 [(0, .ref b), (1, .ref (q 5)), (2, .ref m), (3, .int (nI i))] [] ws := by
  obtain ⟨K, hRm, hn4, hfz, hX, hbl, hbA, hL⟩ := H
  obtain ⟨F, fl, o0, A0, C0, h0, o1, A1, C1, h1, o2, A2, C2, h2, gs, gA, tb, tA, bf, hi, o, A, rfl, hF, hPL, hSW, hhi, hk2, ho4, hTR⟩ := hLI
  obtain ⟨⟨W, C, y, Hn, R, T, hS⟩, hR⟩ := id hSW
  obtain ⟨v, w5, w8, w9, w12, rr, t, rr2, e1, e2, hW⟩ := m_year hS hR hPL gs (gA 0) (gA 1) (gA 2) (gA 3) (gA 5) (A 10) (A 11) (A 12) (A 13) (A 14) (A 15)
  refine g_aload_n K dL_law_676 rfl 1 rfl ?_
  rw [← cw_ext (fl := fl)]
  refine g_cutVi (As := []) (bytes := cX11_year) (maxL := 1) (ret := (some .int)) K fl (mw (g_E Γ) m rm o A) (ctX11_year (E := gExt (g_E Γ) fl) (q := q) (r := r) hF o0 A0 C0 h0 o1 A1 C1 h1 o2 A2 C2 h2 gs gA tb tA bf hi (res := (v, w5, w8, w9, w12, rr)) e1) 0 rfl rfl rfl (gu_V u_787 u_788 u_789 u_68 u_790) rfl qv_X11_year hRm rfl rfl rfl (by decide) (Nat.le_of_ble_eq_true rfl) ⟨by show cl + 0 ≤ 600000; omega, by show sl + 0 ≤ 7302250; omega⟩ dL_law_677 (fun v9 w9 hw => ?_)
  obtain ⟨hv9, rfl⟩ := hw
  obtain rfl : v = v9 := hv9.symm
  rw [cw_ext]
  refine g_aload_n K dL_law_680 rfl 2 rfl ?_
  refine g_r3 ?_
  rw [← mw_ext (fl := [])]
  refine g_cutVi (As := []) (bytes := cX12_year) (maxL := 1) (ret := (some .int)) K [] (_ ++ fl) (ctX12_year (E := gExt (g_E Γ) []) (m := m) (r := rm) o A (res := (v, t, rr2)) e2) 0 rfl rfl rfl (gu_V u_1254 u_1255 u_1256 u_75 u_1257) rfl qv_X12_year hRm rfl rfl rfl (by decide) (Nat.le_of_ble_eq_true rfl) ⟨by show cl + 0 + 0 ≤ 600000; omega, by show sl + 0 + 0 ≤ 7302250; omega⟩ dL_law_681 (fun u9 w9 hw => ?_)
  obtain ⟨hv9, rfl⟩ := hw
  obtain rfl : v = u9 := hv9.symm
  rw [mw_ext]
  refine g_r4 ?_
  refine g_icmp_eq (tgt := 1080) K dL_law_684 (by decide) (fun _ => ?_) (fun qh => absurd rfl qh)
  exact g_wid (by omega) (by omega) (kn _ ⟨F, fl, _, _, _, _, _, _, _, _, _, _, _, _, _, _, _, _, _, _, _, _, rfl, hF, hPL, hW, hhi, hk2, ho4, hTR⟩)

set_option maxHeartbeats 4000000 in
set_option maxRecDepth 100000 in
theorem law_years {Γ : gT} {b L : Nat} {xs : Nat → Int32} {q : Nat → Nat} {r : Nat → Nat → Nat} {m : Nat} {rm : Nat → Nat} (H : LK Γ b L xs) {i : Nat} (hi6 : i + 6 ≤ L) {cl sl : Nat} {ws : va_W} (hc : cl + 10 ≤ 600000) (hs : sl + 311 ≤ 7302250) (hLI : LI (g_E Γ) q r m rm ws) (kn : ∀ ws', LI (g_E Γ) q r m rm ws' → gGO Γ (cl + 10) (sl + 311) 1080 [(0, .ref b), (1, .ref (q 5)), (2, .ref m), (3, .int (nI i))] [] ws') : gGO Γ cl sl 689 [(0, .ref b), (1, .ref (q 5)), (2, .ref m), (3, .int (nI i))] [] ws := by
  obtain ⟨K, hRm, hn4, hfz, hX, hbl, hbA, hL⟩ := H
  obtain ⟨x1, hx1⟩ : ∃ x, xs (nI i + nI 1).toNatClampNeg = x := ⟨_, rfl⟩
  obtain ⟨x2, hx2⟩ : ∃ x, xs (nI i + nI 2).toNatClampNeg = x := ⟨_, rfl⟩
  obtain ⟨x3, hx3⟩ : ∃ x, xs (nI i + nI 3).toNatClampNeg = x := ⟨_, rfl⟩
  obtain ⟨F, fl, o0, A0, C0, h0, o1, A1, C1, h1, o2, A2, C2, h2, gs, gA, tb, tA, bf, hi, o, A, rfl, hF, hPL, hSW, hhi, hk2, ho4, hTR⟩ := hLI
  obtain ⟨⟨W, C, y, Hn, R, T, hS⟩, hR⟩ := id hSW
  obtain ⟨v, rr, rr2, e1, e2⟩ := m_years hS hR hPL (o1 0) (o1 1) (o1 2) (o1 3) (o1 4) (o1 5) (o1 6) (o1 7) (A1 8) (A1 9) (A1 10) (A1 11) (A1 12) (A1 14) (A1 15) (A1 16) (A1 17) h1 C1 gs (gA 0) (gA 1) (gA 2) (gA 3) (gA 5) (A 3) (A 10) (A 11) (A 12) (A 13) (A 14) (A 15) x1 x2 x3
  refine g_aload_n K dL_law_689 rfl 1 rfl ?_
  refine g_aload_n K dL_law_690 rfl 0 rfl ?_
  refine g_iload_n K dL_law_691 rfl 3 rfl ?_
  refine g_iconst (v := 1) K dL_law_692 (by decide) ?_
  refine g_iadd K dL_law_693 ?_
  refine gL_sld K hX hbl hbA (l_in hi6 hL (k := 1) (by decide)) hx1 dL_law_694 ?_
  refine g_aload_n K dL_law_695 rfl 0 rfl ?_
  refine g_iload_n K dL_law_696 rfl 3 rfl ?_
  refine g_iconst (v := 2) K dL_law_697 (by decide) ?_
  refine g_iadd K dL_law_698 ?_
  refine gL_sld K hX hbl hbA (l_in hi6 hL (k := 2) (by decide)) hx2 dL_law_699 ?_
  refine g_aload_n K dL_law_700 rfl 0 rfl ?_
  refine g_iload_n K dL_law_701 rfl 3 rfl ?_
  refine g_iconst (v := 3) K dL_law_702 (by decide) ?_
  refine g_iadd K dL_law_703 ?_
  refine gL_sld K hX hbl hbA (l_in hi6 hL (k := 3) (by decide)) hx3 dL_law_704 ?_
  rw [← cw_ext (fl := fl)]
  refine g_cutVi (As := [.int x1, .int x2, .int x3]) (bytes := cX11_years) (maxL := 6) (ret := (some .int)) K fl (mw (g_E Γ) m rm o A) (ctX11_years (E := gExt (g_E Γ) fl) (q := q) (r := r) hF o0 A0 C0 h0 o1 A1 C1 h1 o2 A2 C2 h2 gs gA tb tA bf hi x1 x2 x3 (res := (v, rr)) e1) 0 rfl rfl rfl (gu_V u_808 u_809 u_810 u_68 u_811) rfl qv_X11_years hRm rfl rfl rfl (by decide) (Nat.le_of_ble_eq_true rfl) ⟨by show cl + 0 ≤ 600000; omega, by show sl + 0 ≤ 7302250; omega⟩ dL_law_705 (fun v9 w9 hw => ?_)
  obtain ⟨hv9, rfl⟩ := hw
  obtain rfl : v = v9 := hv9.symm
  rw [cw_ext]
  refine g_aload_n K dL_law_708 rfl 2 rfl ?_
  refine g_aload_n K dL_law_709 rfl 0 rfl ?_
  refine g_iload_n K dL_law_710 rfl 3 rfl ?_
  refine g_iconst (v := 1) K dL_law_711 (by decide) ?_
  refine g_iadd K dL_law_712 ?_
  refine gL_sld K hX hbl hbA (l_in hi6 hL (k := 1) (by decide)) hx1 dL_law_713 ?_
  refine g_aload_n K dL_law_714 rfl 0 rfl ?_
  refine g_iload_n K dL_law_715 rfl 3 rfl ?_
  refine g_iconst (v := 2) K dL_law_716 (by decide) ?_
  refine g_iadd K dL_law_717 ?_
  refine gL_sld K hX hbl hbA (l_in hi6 hL (k := 2) (by decide)) hx2 dL_law_718 ?_
  refine g_aload_n K dL_law_719 rfl 0 rfl ?_
  refine g_iload_n K dL_law_720 rfl 3 rfl ?_
  refine g_iconst (v := 3) K dL_law_721 (by decide) ?_
  refine g_iadd K dL_law_722 ?_
  refine gL_sld K hX hbl hbA (l_in hi6 hL (k := 3) (by decide)) hx3 dL_law_723 ?_
  refine g_r3 ?_
  rw [← mw_ext (fl := [])]
  refine g_cutVi (As := [.int x1, .int x2, .int x3]) (bytes := cX12_years) (maxL := 7) (ret := (some .int)) K [] (_ ++ fl) (ctX12_years (E := gExt (g_E Γ) []) (m := m) (r := rm) o A x1 x2 x3 (res := (v, A 1, rr2)) e2) 0 rfl rfl rfl (gu_V u_1266 u_1267 u_1268 u_75 u_1269) rfl qv_X12_years hRm rfl rfl rfl (by decide) (Nat.le_of_ble_eq_true rfl) ⟨by show cl + 0 + 0 ≤ 600000; omega, by show sl + 0 + 0 ≤ 7302250; omega⟩ dL_law_724 (fun u9 w9 hw => ?_)
  obtain ⟨hv9, rfl⟩ := hw
  obtain rfl : v = u9 := hv9.symm
  rw [mw_ext]
  refine g_r4 ?_
  refine g_icmp_eq (tgt := 1080) K dL_law_727 (by decide) (fun _ => ?_) (fun qh => absurd rfl qh)
  exact g_wid (by omega) (by omega) (kn _ ⟨F, fl, _, _, _, _, _, _, _, _, _, _, _, _, _, _, _, _, _, _, _, _, rfl, hF, hPL, ⟨⟨W, C, y, Hn, R, T, hS⟩, hR⟩, hhi, hk2, ho4, hTR⟩)

set_option maxHeartbeats 4000000 in
set_option maxRecDepth 100000 in
theorem law_chance {Γ : gT} {b L : Nat} {xs : Nat → Int32} {q : Nat → Nat} {r : Nat → Nat → Nat} {m : Nat} {rm : Nat → Nat} (H : LK Γ b L xs) {i : Nat} (hi6 : i + 6 ≤ L) {cl sl : Nat} {ws : va_W} (hc : cl + 10 ≤ 600000) (hs : sl + 311 ≤ 7302250) (hLI : LI (g_E Γ) q r m rm ws) (kn : ∀ ws', LI (g_E Γ) q r m rm ws' → gGO Γ (cl + 10) (sl + 311) 1080 [(0, .ref b), (1, .ref (q 5)), (2, .ref m), (3, .int (nI i))] [] ws') : gGO Γ cl sl 732 [(0, .ref b), (1, .ref (q 5)), (2, .ref m), (3, .int (nI i))] [] ws := by
  obtain ⟨K, hRm, hn4, hfz, hX, hbl, hbA, hL⟩ := H
  obtain ⟨x1, hx1⟩ : ∃ x, xs (nI i + nI 1).toNatClampNeg = x := ⟨_, rfl⟩
  obtain ⟨x2, hx2⟩ : ∃ x, xs (nI i + nI 2).toNatClampNeg = x := ⟨_, rfl⟩
  obtain ⟨x3, hx3⟩ : ∃ x, xs (nI i + nI 3).toNatClampNeg = x := ⟨_, rfl⟩
  obtain ⟨x4, hx4⟩ : ∃ x, xs (nI i + nI 4).toNatClampNeg = x := ⟨_, rfl⟩
  obtain ⟨x5, hx5⟩ : ∃ x, xs (nI i + nI 5).toNatClampNeg = x := ⟨_, rfl⟩
  obtain ⟨F, fl, o0, A0, C0, h0, o1, A1, C1, h1, o2, A2, C2, h2, gs, gA, tb, tA, bf, hi, o, A, rfl, hF, hPL, hSW, hhi, hk2, ho4, hTR⟩ := hLI
  obtain ⟨⟨W, C, y, Hn, R, T, hS⟩, hR⟩ := id hSW
  obtain ⟨v, e1, e2⟩ := m_chance x1 x2 x3 x4 x5
  refine g_aload_n K dL_law_732 rfl 1 rfl ?_
  refine g_aload_n K dL_law_733 rfl 0 rfl ?_
  refine g_iload_n K dL_law_734 rfl 3 rfl ?_
  refine g_iconst (v := 1) K dL_law_735 (by decide) ?_
  refine g_iadd K dL_law_736 ?_
  refine gL_sld K hX hbl hbA (l_in hi6 hL (k := 1) (by decide)) hx1 dL_law_737 ?_
  refine g_aload_n K dL_law_738 rfl 0 rfl ?_
  refine g_iload_n K dL_law_739 rfl 3 rfl ?_
  refine g_iconst (v := 2) K dL_law_740 (by decide) ?_
  refine g_iadd K dL_law_741 ?_
  refine gL_sld K hX hbl hbA (l_in hi6 hL (k := 2) (by decide)) hx2 dL_law_742 ?_
  refine g_aload_n K dL_law_743 rfl 0 rfl ?_
  refine g_iload_n K dL_law_744 rfl 3 rfl ?_
  refine g_iconst (v := 3) K dL_law_745 (by decide) ?_
  refine g_iadd K dL_law_746 ?_
  refine gL_sld K hX hbl hbA (l_in hi6 hL (k := 3) (by decide)) hx3 dL_law_747 ?_
  refine g_aload_n K dL_law_748 rfl 0 rfl ?_
  refine g_iload_n K dL_law_749 rfl 3 rfl ?_
  refine g_iconst (v := 4) K dL_law_750 (by decide) ?_
  refine g_iadd K dL_law_751 ?_
  refine gL_sld K hX hbl hbA (l_in hi6 hL (k := 4) (by decide)) hx4 dL_law_752 ?_
  refine g_aload_n K dL_law_753 rfl 0 rfl ?_
  refine g_iload_n K dL_law_754 rfl 3 rfl ?_
  refine g_iconst (v := 5) K dL_law_755 (by decide) ?_
  refine g_iadd K dL_law_756 ?_
  refine gL_sld K hX hbl hbA (l_in hi6 hL (k := 5) (by decide)) hx5 dL_law_757 ?_
  rw [← cw_ext (fl := fl)]
  refine g_cutVl (As := [.int x1, .int x2, .int x3, .int x4, .int x5]) (bytes := cX11_chance) (maxL := 6) (ret := (some .long)) K fl (mw (g_E Γ) m rm o A) (ctX11_chance (E := gExt (g_E Γ) fl) (q := q) (r := r) hF o0 A0 C0 h0 o1 A1 C1 h1 o2 A2 C2 h2 gs gA tb tA bf hi x1 x2 x3 x4 x5 (res := v) e1) 0 rfl rfl rfl (gu_V u_816 u_817 u_818 u_68 u_819) rfl qv_X11_chance hRm rfl rfl rfl (by decide) (Nat.le_of_ble_eq_true rfl) ⟨by show cl + 0 ≤ 600000; omega, by show sl + 0 ≤ 7302250; omega⟩ dL_law_758 (fun v9 w9 hw => ?_)
  obtain ⟨hv9, rfl⟩ := hw
  obtain rfl : v = v9 := hv9.symm
  rw [cw_ext]
  refine g_aload_n K dL_law_761 rfl 2 rfl ?_
  refine g_aload_n K dL_law_762 rfl 0 rfl ?_
  refine g_iload_n K dL_law_763 rfl 3 rfl ?_
  refine g_iconst (v := 1) K dL_law_764 (by decide) ?_
  refine g_iadd K dL_law_765 ?_
  refine gL_sld K hX hbl hbA (l_in hi6 hL (k := 1) (by decide)) hx1 dL_law_766 ?_
  refine g_aload_n K dL_law_767 rfl 0 rfl ?_
  refine g_iload_n K dL_law_768 rfl 3 rfl ?_
  refine g_iconst (v := 2) K dL_law_769 (by decide) ?_
  refine g_iadd K dL_law_770 ?_
  refine gL_sld K hX hbl hbA (l_in hi6 hL (k := 2) (by decide)) hx2 dL_law_771 ?_
  refine g_aload_n K dL_law_772 rfl 0 rfl ?_
  refine g_iload_n K dL_law_773 rfl 3 rfl ?_
  refine g_iconst (v := 3) K dL_law_774 (by decide) ?_
  refine g_iadd K dL_law_775 ?_
  refine gL_sld K hX hbl hbA (l_in hi6 hL (k := 3) (by decide)) hx3 dL_law_776 ?_
  refine g_aload_n K dL_law_777 rfl 0 rfl ?_
  refine g_iload_n K dL_law_778 rfl 3 rfl ?_
  refine g_iconst (v := 4) K dL_law_779 (by decide) ?_
  refine g_iadd K dL_law_780 ?_
  refine gL_sld K hX hbl hbA (l_in hi6 hL (k := 4) (by decide)) hx4 dL_law_781 ?_
  refine g_aload_n K dL_law_782 rfl 0 rfl ?_
  refine g_iload_n K dL_law_783 rfl 3 rfl ?_
  refine g_iconst (v := 5) K dL_law_784 (by decide) ?_
  refine g_iadd K dL_law_785 ?_
  refine gL_sld K hX hbl hbA (l_in hi6 hL (k := 5) (by decide)) hx5 dL_law_786 ?_
  refine g_r3 ?_
  rw [← mw_ext (fl := [])]
  refine g_cutVl (As := [.int x1, .int x2, .int x3, .int x4, .int x5]) (bytes := cX12_chance) (maxL := 6) (ret := (some .long)) K [] (_ ++ fl) (ctX12_chance (E := gExt (g_E Γ) []) (m := m) (r := rm) o A x1 x2 x3 x4 x5 (res := v) e2) 0 rfl rfl rfl (gu_V u_1278 u_1279 u_1280 u_75 u_1281) rfl qv_X12_chance hRm rfl rfl rfl (by decide) (Nat.le_of_ble_eq_true rfl) ⟨by show cl + 0 + 0 ≤ 600000; omega, by show sl + 0 + 0 ≤ 7302250; omega⟩ dL_law_787 (fun u9 w9 hw => ?_)
  obtain ⟨hv9, rfl⟩ := hw
  obtain rfl : v = u9 := hv9.symm
  rw [mw_ext]
  refine g_r4 ?_
  refine g_lcmp K dL_law_790 ?_
  refine g_if_eq (tgt := 1080) K dL_law_791 (by decide) (fun _ => ?_) (fun qh => absurd l_cmp0 qh)
  exact g_wid (by omega) (by omega) (kn _ ⟨F, fl, _, _, _, _, _, _, _, _, _, _, _, _, _, _, _, _, _, _, _, _, rfl, hF, hPL, ⟨⟨W, C, y, Hn, R, T, hS⟩, hR⟩, hhi, hk2, ho4, hTR⟩)

set_option maxHeartbeats 4000000 in
set_option maxRecDepth 100000 in
theorem law_book {Γ : gT} {b L : Nat} {xs : Nat → Int32} {q : Nat → Nat} {r : Nat → Nat → Nat} {m : Nat} {rm : Nat → Nat} (H : LK Γ b L xs) {i : Nat} (hi6 : i + 6 ≤ L) {cl sl : Nat} {ws : va_W} (hc : cl + 10 ≤ 600000) (hs : sl + 311 ≤ 7302250) (hLI : LI (g_E Γ) q r m rm ws) (kn : ∀ ws', LI (g_E Γ) q r m rm ws' → gGO Γ (cl + 10) (sl + 311) 1080 [(0, .ref b), (1, .ref (q 5)), (2, .ref m), (3, .int (nI i))] [] ws') : gGO Γ cl sl 796 [(0, .ref b), (1, .ref (q 5)), (2, .ref m), (3, .int (nI i))] [] ws := by
  obtain ⟨K, hRm, hn4, hfz, hX, hbl, hbA, hL⟩ := H
  obtain ⟨x1, hx1⟩ : ∃ x, xs (nI i + nI 1).toNatClampNeg = x := ⟨_, rfl⟩
  obtain ⟨x2, hx2⟩ : ∃ x, xs (nI i + nI 2).toNatClampNeg = x := ⟨_, rfl⟩
  obtain ⟨x3, hx3⟩ : ∃ x, xs (nI i + nI 3).toNatClampNeg = x := ⟨_, rfl⟩
  obtain ⟨F, fl, o0, A0, C0, h0, o1, A1, C1, h1, o2, A2, C2, h2, gs, gA, tb, tA, bf, hi, o, A, rfl, hF, hPL, hSW, hhi, hk2, ho4, hTR⟩ := hLI
  obtain ⟨⟨W, C, y, Hn, R, T, hS⟩, hR⟩ := id hSW
  obtain ⟨v, w3, w14, w15, w16, t, e1, e2, hW⟩ := m_book hS hR x1 x2 x3
  refine g_aload_n K dL_law_796 rfl 1 rfl ?_
  refine g_aload_n K dL_law_797 rfl 0 rfl ?_
  refine g_iload_n K dL_law_798 rfl 3 rfl ?_
  refine g_iconst (v := 1) K dL_law_799 (by decide) ?_
  refine g_iadd K dL_law_800 ?_
  refine gL_sld K hX hbl hbA (l_in hi6 hL (k := 1) (by decide)) hx1 dL_law_801 ?_
  refine g_aload_n K dL_law_802 rfl 0 rfl ?_
  refine g_iload_n K dL_law_803 rfl 3 rfl ?_
  refine g_iconst (v := 2) K dL_law_804 (by decide) ?_
  refine g_iadd K dL_law_805 ?_
  refine gL_sld K hX hbl hbA (l_in hi6 hL (k := 2) (by decide)) hx2 dL_law_806 ?_
  refine g_aload_n K dL_law_807 rfl 0 rfl ?_
  refine g_iload_n K dL_law_808 rfl 3 rfl ?_
  refine g_iconst (v := 3) K dL_law_809 (by decide) ?_
  refine g_iadd K dL_law_810 ?_
  refine gL_sld K hX hbl hbA (l_in hi6 hL (k := 3) (by decide)) hx3 dL_law_811 ?_
  rw [← cw_ext (fl := fl)]
  refine g_cutVi (As := [.int x1, .int x2, .int x3]) (bytes := cX11_book) (maxL := 4) (ret := (some .int)) K fl (mw (g_E Γ) m rm o A) (ctX11_book (E := gExt (g_E Γ) fl) (q := q) (r := r) hF o0 A0 C0 h0 o1 A1 C1 h1 o2 A2 C2 h2 gs gA tb tA bf hi x1 x2 x3 (res := (v, w3, w14, w15, w16)) e1) 0 rfl rfl rfl (gu_V u_830 u_831 u_832 u_68 u_833) rfl qv_X11_book hRm rfl rfl rfl (by decide) (Nat.le_of_ble_eq_true rfl) ⟨by show cl + 0 ≤ 600000; omega, by show sl + 0 ≤ 7302250; omega⟩ dL_law_812 (fun v9 w9 hw => ?_)
  obtain ⟨hv9, rfl⟩ := hw
  obtain rfl : v = v9 := hv9.symm
  rw [cw_ext]
  refine g_aload_n K dL_law_815 rfl 2 rfl ?_
  refine g_aload_n K dL_law_816 rfl 0 rfl ?_
  refine g_iload_n K dL_law_817 rfl 3 rfl ?_
  refine g_iconst (v := 1) K dL_law_818 (by decide) ?_
  refine g_iadd K dL_law_819 ?_
  refine gL_sld K hX hbl hbA (l_in hi6 hL (k := 1) (by decide)) hx1 dL_law_820 ?_
  refine g_aload_n K dL_law_821 rfl 0 rfl ?_
  refine g_iload_n K dL_law_822 rfl 3 rfl ?_
  refine g_iconst (v := 2) K dL_law_823 (by decide) ?_
  refine g_iadd K dL_law_824 ?_
  refine gL_sld K hX hbl hbA (l_in hi6 hL (k := 2) (by decide)) hx2 dL_law_825 ?_
  refine g_aload_n K dL_law_826 rfl 0 rfl ?_
  refine g_iload_n K dL_law_827 rfl 3 rfl ?_
  refine g_iconst (v := 3) K dL_law_828 (by decide) ?_
  refine g_iadd K dL_law_829 ?_
  refine gL_sld K hX hbl hbA (l_in hi6 hL (k := 3) (by decide)) hx3 dL_law_830 ?_
  refine g_r3 ?_
  rw [← mw_ext (fl := [])]
  refine g_cutVi (As := [.int x1, .int x2, .int x3]) (bytes := cX12_book) (maxL := 5) (ret := (some .int)) K [] (_ ++ fl) (ctX12_book (E := gExt (g_E Γ) []) (m := m) (r := rm) o A x1 x2 x3 (res := (v, t)) e2) 0 rfl rfl rfl (gu_V u_1292 u_1293 u_1294 u_75 u_1295) rfl qv_X12_book hRm rfl rfl rfl (by decide) (Nat.le_of_ble_eq_true rfl) ⟨by show cl + 0 + 0 ≤ 600000; omega, by show sl + 0 + 0 ≤ 7302250; omega⟩ dL_law_831 (fun u9 w9 hw => ?_)
  obtain ⟨hv9, rfl⟩ := hw
  obtain rfl : v = u9 := hv9.symm
  rw [mw_ext]
  refine g_r4 ?_
  refine g_icmp_eq (tgt := 1080) K dL_law_834 (by decide) (fun _ => ?_) (fun qh => absurd rfl qh)
  exact g_wid (by omega) (by omega) (kn _ ⟨F, fl, _, _, _, _, _, _, _, _, _, _, _, _, _, _, _, _, _, _, _, _, rfl, hF, hPL, hW, hhi, hk2, ho4, hTR⟩)

set_option maxHeartbeats 4000000 in
set_option maxRecDepth 100000 in
theorem law_clear {Γ : gT} {b L : Nat} {xs : Nat → Int32} {q : Nat → Nat} {r : Nat → Nat → Nat} {m : Nat} {rm : Nat → Nat} (H : LK Γ b L xs) {i : Nat} (hi6 : i + 6 ≤ L) {cl sl : Nat} {ws : va_W} (hc : cl + 10 ≤ 600000) (hs : sl + 311 ≤ 7302250) (hLI : LI (g_E Γ) q r m rm ws) (kn : ∀ ws', LI (g_E Γ) q r m rm ws' → gGO Γ (cl + 10) (sl + 311) 1080 [(0, .ref b), (1, .ref (q 5)), (2, .ref m), (3, .int (nI i))] [] ws') : gGO Γ cl sl 839 [(0, .ref b), (1, .ref (q 5)), (2, .ref m), (3, .int (nI i))] [] ws := by
  obtain ⟨K, hRm, hn4, hfz, hX, hbl, hbA, hL⟩ := H
  obtain ⟨F, fl, o0, A0, C0, h0, o1, A1, C1, h1, o2, A2, C2, h2, gs, gA, tb, tA, bf, hi, o, A, rfl, hF, hPL, hSW, hhi, hk2, ho4, hTR⟩ := hLI
  obtain ⟨⟨W, C, y, Hn, R, T, hS⟩, hR⟩ := id hSW
  obtain ⟨v, w3, t, e1, e2, hW⟩ := m_clear hS hR
  refine g_aload_n K dL_law_839 rfl 1 rfl ?_
  rw [← cw_ext (fl := fl)]
  refine g_cutVi (As := []) (bytes := cX11_clear) (maxL := 2) (ret := (some .int)) K fl (mw (g_E Γ) m rm o A) (ctX11_clear (E := gExt (g_E Γ) fl) (q := q) (r := r) hF o0 A0 C0 h0 o1 A1 C1 h1 o2 A2 C2 h2 gs gA tb tA bf hi (res := (v, w3)) e1) 0 rfl rfl rfl (gu_V u_834 u_835 u_836 u_68 u_837) rfl qv_X11_clear hRm rfl rfl rfl (by decide) (Nat.le_of_ble_eq_true rfl) ⟨by show cl + 0 ≤ 600000; omega, by show sl + 0 ≤ 7302250; omega⟩ dL_law_840 (fun v9 w9 hw => ?_)
  obtain ⟨hv9, rfl⟩ := hw
  obtain rfl : v = v9 := hv9.symm
  rw [cw_ext]
  refine g_aload_n K dL_law_843 rfl 2 rfl ?_
  refine g_r3 ?_
  rw [← mw_ext (fl := [])]
  refine g_cutVi (As := []) (bytes := cX12_clear) (maxL := 2) (ret := (some .int)) K [] (_ ++ fl) (ctX12_clear (E := gExt (g_E Γ) []) (m := m) (r := rm) o A (res := (v, t)) e2) 0 rfl rfl rfl (gu_V u_1296 u_1297 u_1298 u_75 u_1299) rfl qv_X12_clear hRm rfl rfl rfl (by decide) (Nat.le_of_ble_eq_true rfl) ⟨by show cl + 0 + 0 ≤ 600000; omega, by show sl + 0 + 0 ≤ 7302250; omega⟩ dL_law_844 (fun u9 w9 hw => ?_)
  obtain ⟨hv9, rfl⟩ := hw
  obtain rfl : v = u9 := hv9.symm
  rw [mw_ext]
  refine g_r4 ?_
  refine g_icmp_eq (tgt := 1080) K dL_law_847 (by decide) (fun _ => ?_) (fun qh => absurd rfl qh)
  exact g_wid (by omega) (by omega) (kn _ ⟨F, fl, _, _, _, _, _, _, _, _, _, _, _, _, _, _, _, _, _, _, _, _, rfl, hF, hPL, hW, hhi, hk2, ho4, hTR⟩)

set_option maxHeartbeats 4000000 in
set_option maxRecDepth 100000 in
theorem law_nets {Γ : gT} {b L : Nat} {xs : Nat → Int32} {q : Nat → Nat} {r : Nat → Nat → Nat} {m : Nat} {rm : Nat → Nat} (H : LK Γ b L xs) {i : Nat} (hi6 : i + 6 ≤ L) {cl sl : Nat} {ws : va_W} (hc : cl + 10 ≤ 600000) (hs : sl + 311 ≤ 7302250) (hLI : LI (g_E Γ) q r m rm ws) (kn : ∀ ws', LI (g_E Γ) q r m rm ws' → gGO Γ (cl + 10) (sl + 311) 1080 [(0, .ref b), (1, .ref (q 5)), (2, .ref m), (3, .int (nI i))] [] ws') : gGO Γ cl sl 852 [(0, .ref b), (1, .ref (q 5)), (2, .ref m), (3, .int (nI i))] [] ws := by
  obtain ⟨K, hRm, hn4, hfz, hX, hbl, hbA, hL⟩ := H
  obtain ⟨x1, hx1⟩ : ∃ x, xs (nI i + nI 1).toNatClampNeg = x := ⟨_, rfl⟩
  obtain ⟨F, fl, o0, A0, C0, h0, o1, A1, C1, h1, o2, A2, C2, h2, gs, gA, tb, tA, bf, hi, o, A, rfl, hF, hPL, hSW, hhi, hk2, ho4, hTR⟩ := hLI
  obtain ⟨⟨W, C, y, Hn, R, T, hS⟩, hR⟩ := id hSW
  obtain ⟨v, e1, e2⟩ := m_nets hS hR x1
  refine g_aload_n K dL_law_852 rfl 1 rfl ?_
  refine g_aload_n K dL_law_853 rfl 0 rfl ?_
  refine g_iload_n K dL_law_854 rfl 3 rfl ?_
  refine g_iconst (v := 1) K dL_law_855 (by decide) ?_
  refine g_iadd K dL_law_856 ?_
  refine gL_sld K hX hbl hbA (l_in hi6 hL (k := 1) (by decide)) hx1 dL_law_857 ?_
  rw [← cw_ext (fl := fl)]
  refine g_cutVi (As := [.int x1]) (bytes := cX11_nets) (maxL := 2) (ret := (some .int)) K fl (mw (g_E Γ) m rm o A) (ctX11_nets (E := gExt (g_E Γ) fl) (q := q) (r := r) hF o0 A0 C0 h0 o1 A1 C1 h1 o2 A2 C2 h2 gs gA tb tA bf hi x1 (res := v) e1) 0 rfl rfl rfl (gu_V u_838 u_839 u_840 u_68 u_841) rfl qv_X11_nets hRm rfl rfl rfl (by decide) (Nat.le_of_ble_eq_true rfl) ⟨by show cl + 0 ≤ 600000; omega, by show sl + 0 ≤ 7302250; omega⟩ dL_law_858 (fun v9 w9 hw => ?_)
  obtain ⟨hv9, rfl⟩ := hw
  obtain rfl : v = v9 := hv9.symm
  rw [cw_ext]
  refine g_aload_n K dL_law_861 rfl 2 rfl ?_
  refine g_aload_n K dL_law_862 rfl 0 rfl ?_
  refine g_iload_n K dL_law_863 rfl 3 rfl ?_
  refine g_iconst (v := 1) K dL_law_864 (by decide) ?_
  refine g_iadd K dL_law_865 ?_
  refine gL_sld K hX hbl hbA (l_in hi6 hL (k := 1) (by decide)) hx1 dL_law_866 ?_
  refine g_r3 ?_
  rw [← mw_ext (fl := [])]
  refine g_cutVi (As := [.int x1]) (bytes := cX12_nets) (maxL := 4) (ret := (some .int)) K [] (_ ++ fl) (ctX12_nets (E := gExt (g_E Γ) []) (m := m) (r := rm) o A x1 (res := v) e2) 0 rfl rfl rfl (gu_V u_1300 u_1301 u_1302 u_75 u_1303) rfl qv_X12_nets hRm rfl rfl rfl (by decide) (Nat.le_of_ble_eq_true rfl) ⟨by show cl + 0 + 0 ≤ 600000; omega, by show sl + 0 + 0 ≤ 7302250; omega⟩ dL_law_867 (fun u9 w9 hw => ?_)
  obtain ⟨hv9, rfl⟩ := hw
  obtain rfl : v = u9 := hv9.symm
  rw [mw_ext]
  refine g_r4 ?_
  refine g_icmp_eq (tgt := 1080) K dL_law_870 (by decide) (fun _ => ?_) (fun qh => absurd rfl qh)
  exact g_wid (by omega) (by omega) (kn _ ⟨F, fl, _, _, _, _, _, _, _, _, _, _, _, _, _, _, _, _, _, _, _, _, rfl, hF, hPL, ⟨⟨W, C, y, Hn, R, T, hS⟩, hR⟩, hhi, hk2, ho4, hTR⟩)

set_option maxHeartbeats 4000000 in
set_option maxRecDepth 100000 in
theorem law_leans {Γ : gT} {b L : Nat} {xs : Nat → Int32} {q : Nat → Nat} {r : Nat → Nat → Nat} {m : Nat} {rm : Nat → Nat} (H : LK Γ b L xs) {i : Nat} (hi6 : i + 6 ≤ L) {cl sl : Nat} {ws : va_W} (hc : cl + 10 ≤ 600000) (hs : sl + 311 ≤ 7302250) (hLI : LI (g_E Γ) q r m rm ws) (kn : ∀ ws', LI (g_E Γ) q r m rm ws' → gGO Γ (cl + 10) (sl + 311) 1080 [(0, .ref b), (1, .ref (q 5)), (2, .ref m), (3, .int (nI i))] [] ws') : gGO Γ cl sl 875 [(0, .ref b), (1, .ref (q 5)), (2, .ref m), (3, .int (nI i))] [] ws := by
  obtain ⟨K, hRm, hn4, hfz, hX, hbl, hbA, hL⟩ := H
  obtain ⟨x1, hx1⟩ : ∃ x, xs (nI i + nI 1).toNatClampNeg = x := ⟨_, rfl⟩
  obtain ⟨x2, hx2⟩ : ∃ x, xs (nI i + nI 2).toNatClampNeg = x := ⟨_, rfl⟩
  obtain ⟨x3, hx3⟩ : ∃ x, xs (nI i + nI 3).toNatClampNeg = x := ⟨_, rfl⟩
  obtain ⟨F, fl, o0, A0, C0, h0, o1, A1, C1, h1, o2, A2, C2, h2, gs, gA, tb, tA, bf, hi, o, A, rfl, hF, hPL, hSW, hhi, hk2, ho4, hTR⟩ := hLI
  obtain ⟨⟨W, C, y, Hn, R, T, hS⟩, hR⟩ := id hSW
  obtain ⟨v, e1, e2⟩ := m_leans hS hR x1 x2 x3
  refine g_aload_n K dL_law_875 rfl 1 rfl ?_
  refine g_aload_n K dL_law_876 rfl 0 rfl ?_
  refine g_iload_n K dL_law_877 rfl 3 rfl ?_
  refine g_iconst (v := 1) K dL_law_878 (by decide) ?_
  refine g_iadd K dL_law_879 ?_
  refine gL_sld K hX hbl hbA (l_in hi6 hL (k := 1) (by decide)) hx1 dL_law_880 ?_
  refine g_aload_n K dL_law_881 rfl 0 rfl ?_
  refine g_iload_n K dL_law_882 rfl 3 rfl ?_
  refine g_iconst (v := 2) K dL_law_883 (by decide) ?_
  refine g_iadd K dL_law_884 ?_
  refine gL_sld K hX hbl hbA (l_in hi6 hL (k := 2) (by decide)) hx2 dL_law_885 ?_
  refine g_aload_n K dL_law_886 rfl 0 rfl ?_
  refine g_iload_n K dL_law_887 rfl 3 rfl ?_
  refine g_iconst (v := 3) K dL_law_888 (by decide) ?_
  refine g_iadd K dL_law_889 ?_
  refine gL_sld K hX hbl hbA (l_in hi6 hL (k := 3) (by decide)) hx3 dL_law_890 ?_
  rw [← cw_ext (fl := fl)]
  refine g_cutVl (As := [.int x1, .int x2, .int x3]) (bytes := cX11_leans) (maxL := 9) (ret := (some .long)) K fl (mw (g_E Γ) m rm o A) (ctX11_leans (E := gExt (g_E Γ) fl) (q := q) (r := r) hF o0 A0 C0 h0 o1 A1 C1 h1 o2 A2 C2 h2 gs gA tb tA bf hi x1 x2 x3 (res := v) e1) 0 rfl rfl rfl (gu_V u_854 u_855 u_856 u_68 u_857) rfl qv_X11_leans hRm rfl rfl rfl (by decide) (Nat.le_of_ble_eq_true rfl) ⟨by show cl + 0 ≤ 600000; omega, by show sl + 0 ≤ 7302250; omega⟩ dL_law_891 (fun v9 w9 hw => ?_)
  obtain ⟨hv9, rfl⟩ := hw
  obtain rfl : v = v9 := hv9.symm
  rw [cw_ext]
  refine g_aload_n K dL_law_894 rfl 2 rfl ?_
  refine g_aload_n K dL_law_895 rfl 0 rfl ?_
  refine g_iload_n K dL_law_896 rfl 3 rfl ?_
  refine g_iconst (v := 1) K dL_law_897 (by decide) ?_
  refine g_iadd K dL_law_898 ?_
  refine gL_sld K hX hbl hbA (l_in hi6 hL (k := 1) (by decide)) hx1 dL_law_899 ?_
  refine g_aload_n K dL_law_900 rfl 0 rfl ?_
  refine g_iload_n K dL_law_901 rfl 3 rfl ?_
  refine g_iconst (v := 2) K dL_law_902 (by decide) ?_
  refine g_iadd K dL_law_903 ?_
  refine gL_sld K hX hbl hbA (l_in hi6 hL (k := 2) (by decide)) hx2 dL_law_904 ?_
  refine g_aload_n K dL_law_905 rfl 0 rfl ?_
  refine g_iload_n K dL_law_906 rfl 3 rfl ?_
  refine g_iconst (v := 3) K dL_law_907 (by decide) ?_
  refine g_iadd K dL_law_908 ?_
  refine gL_sld K hX hbl hbA (l_in hi6 hL (k := 3) (by decide)) hx3 dL_law_909 ?_
  refine g_r3 ?_
  rw [← mw_ext (fl := [])]
  refine g_cutVl (As := [.int x1, .int x2, .int x3]) (bytes := cX12_leans) (maxL := 9) (ret := (some .long)) K [] (_ ++ fl) (ctX12_leans (E := gExt (g_E Γ) []) (m := m) (r := rm) o A x1 x2 x3 (res := v) e2) 0 rfl rfl rfl (gu_V u_1316 u_1317 u_1318 u_75 u_1319) rfl qv_X12_leans hRm rfl rfl rfl (by decide) (Nat.le_of_ble_eq_true rfl) ⟨by show cl + 0 + 0 ≤ 600000; omega, by show sl + 0 + 0 ≤ 7302250; omega⟩ dL_law_910 (fun u9 w9 hw => ?_)
  obtain ⟨hv9, rfl⟩ := hw
  obtain rfl : v = u9 := hv9.symm
  rw [mw_ext]
  refine g_r4 ?_
  refine g_lcmp K dL_law_913 ?_
  refine g_if_eq (tgt := 1080) K dL_law_914 (by decide) (fun _ => ?_) (fun qh => absurd l_cmp0 qh)
  exact g_wid (by omega) (by omega) (kn _ ⟨F, fl, _, _, _, _, _, _, _, _, _, _, _, _, _, _, _, _, _, _, _, _, rfl, hF, hPL, ⟨⟨W, C, y, Hn, R, T, hS⟩, hR⟩, hhi, hk2, ho4, hTR⟩)

set_option maxHeartbeats 4000000 in
set_option maxRecDepth 100000 in
theorem law_looked {Γ : gT} {b L : Nat} {xs : Nat → Int32} {q : Nat → Nat} {r : Nat → Nat → Nat} {m : Nat} {rm : Nat → Nat} (H : LK Γ b L xs) {i : Nat} (hi6 : i + 6 ≤ L) {cl sl : Nat} {ws : va_W} (hc : cl + 10 ≤ 600000) (hs : sl + 311 ≤ 7302250) (hLI : LI (g_E Γ) q r m rm ws) (kn : ∀ ws', LI (g_E Γ) q r m rm ws' → gGO Γ (cl + 10) (sl + 311) 1080 [(0, .ref b), (1, .ref (q 5)), (2, .ref m), (3, .int (nI i))] [] ws') : gGO Γ cl sl 919 [(0, .ref b), (1, .ref (q 5)), (2, .ref m), (3, .int (nI i))] [] ws := by
  obtain ⟨K, hRm, hn4, hfz, hX, hbl, hbA, hL⟩ := H
  obtain ⟨F, fl, o0, A0, C0, h0, o1, A1, C1, h1, o2, A2, C2, h2, gs, gA, tb, tA, bf, hi, o, A, rfl, hF, hPL, hSW, hhi, hk2, ho4, hTR⟩ := hLI
  obtain ⟨⟨W, C, y, Hn, R, T, hS⟩, hR⟩ := id hSW
  obtain ⟨v, rr, rr2, e1, e2⟩ := m_looked hS hR (o1 0) (o1 1) (o1 2) (o1 3) (o1 4) (o1 5) (o1 6) (o1 7) (A1 8) (A1 9) (A1 10) (A1 11) (A1 12) (A1 14) (A1 15) (A1 16) (A1 17) h1 C1 gs (gA 0) (gA 1) (gA 2) (gA 3) (gA 5) (A 10) (A 11) (A 12) (A 13) (A 15)
  refine g_aload_n K dL_law_919 rfl 1 rfl ?_
  rw [← cw_ext (fl := fl)]
  refine g_cutVi (As := []) (bytes := cX11_looked) (maxL := 3) (ret := (some .int)) K fl (mw (g_E Γ) m rm o A) (ctX11_looked (E := gExt (g_E Γ) fl) (q := q) (r := r) hF o0 A0 C0 h0 o1 A1 C1 h1 o2 A2 C2 h2 gs gA tb tA bf hi (res := (v, rr)) e1) 0 rfl rfl rfl (gu_V u_862 u_863 u_864 u_68 u_865) rfl qv_X11_looked hRm rfl rfl rfl (by decide) (Nat.le_of_ble_eq_true rfl) ⟨by show cl + 0 ≤ 600000; omega, by show sl + 0 ≤ 7302250; omega⟩ dL_law_920 (fun v9 w9 hw => ?_)
  obtain ⟨hv9, rfl⟩ := hw
  obtain rfl : v = v9 := hv9.symm
  rw [cw_ext]
  refine g_aload_n K dL_law_923 rfl 2 rfl ?_
  refine g_r3 ?_
  rw [← mw_ext (fl := [])]
  refine g_cutVi (As := []) (bytes := cX12_looked) (maxL := 2) (ret := (some .int)) K [] (_ ++ fl) (ctX12_looked (E := gExt (g_E Γ) []) (m := m) (r := rm) o A (res := (v, A 1, rr2)) e2) 0 rfl rfl rfl (gu_V u_1320 u_1321 u_1322 u_75 u_1323) rfl qv_X12_looked hRm rfl rfl rfl (by decide) (Nat.le_of_ble_eq_true rfl) ⟨by show cl + 0 + 0 ≤ 600000; omega, by show sl + 0 + 0 ≤ 7302250; omega⟩ dL_law_924 (fun u9 w9 hw => ?_)
  obtain ⟨hv9, rfl⟩ := hw
  obtain rfl : v = u9 := hv9.symm
  rw [mw_ext]
  refine g_r4 ?_
  refine g_icmp_eq (tgt := 1080) K dL_law_927 (by decide) (fun _ => ?_) (fun qh => absurd rfl qh)
  exact g_wid (by omega) (by omega) (kn _ ⟨F, fl, _, _, _, _, _, _, _, _, _, _, _, _, _, _, _, _, _, _, _, _, rfl, hF, hPL, ⟨⟨W, C, y, Hn, R, T, hS⟩, hR⟩, hhi, hk2, ho4, hTR⟩)

set_option maxHeartbeats 4000000 in
set_option maxRecDepth 100000 in
theorem law_act {Γ : gT} {b L : Nat} {xs : Nat → Int32} {q : Nat → Nat} {r : Nat → Nat → Nat} {m : Nat} {rm : Nat → Nat} (H : LK Γ b L xs) {i : Nat} (hi6 : i + 6 ≤ L) {cl sl : Nat} {ws : va_W} (hc : cl + 10 ≤ 600000) (hs : sl + 311 ≤ 7302250) (hLI : LI (g_E Γ) q r m rm ws) (kn : ∀ ws', LI (g_E Γ) q r m rm ws' → gGO Γ (cl + 10) (sl + 311) 1080 [(0, .ref b), (1, .ref (q 5)), (2, .ref m), (3, .int (nI i))] [] ws') : gGO Γ cl sl 932 [(0, .ref b), (1, .ref (q 5)), (2, .ref m), (3, .int (nI i))] [] ws := by
  obtain ⟨K, hRm, hn4, hfz, hX, hbl, hbA, hL⟩ := H
  obtain ⟨x1, hx1⟩ : ∃ x, xs (nI i + nI 1).toNatClampNeg = x := ⟨_, rfl⟩
  obtain ⟨x2, hx2⟩ : ∃ x, xs (nI i + nI 2).toNatClampNeg = x := ⟨_, rfl⟩
  obtain ⟨x3, hx3⟩ : ∃ x, xs (nI i + nI 3).toNatClampNeg = x := ⟨_, rfl⟩
  obtain ⟨F, fl, o0, A0, C0, h0, o1, A1, C1, h1, o2, A2, C2, h2, gs, gA, tb, tA, bf, hi, o, A, rfl, hF, hPL, hSW, hhi, hk2, ho4, hTR⟩ := hLI
  obtain ⟨⟨W, C, y, Hn, R, T, hS⟩, hR⟩ := id hSW
  obtain ⟨v, t1, ta1, b17, b18, b19, b20, b21, e1, e2, hT⟩ := m_act hS hR (tb0 := tb) (ta := tA) (a17 := A 17) (o18 := o 18) (o19 := o 19) (o20 := o 20) (o21 := o 21) x1 x2 x3
  refine g_aload_n K dL_law_932 rfl 1 rfl ?_
  refine g_aload_n K dL_law_933 rfl 0 rfl ?_
  refine g_iload_n K dL_law_934 rfl 3 rfl ?_
  refine g_iconst (v := 1) K dL_law_935 (by decide) ?_
  refine g_iadd K dL_law_936 ?_
  refine gL_sld K hX hbl hbA (l_in hi6 hL (k := 1) (by decide)) hx1 dL_law_937 ?_
  refine g_aload_n K dL_law_938 rfl 0 rfl ?_
  refine g_iload_n K dL_law_939 rfl 3 rfl ?_
  refine g_iconst (v := 2) K dL_law_940 (by decide) ?_
  refine g_iadd K dL_law_941 ?_
  refine gL_sld K hX hbl hbA (l_in hi6 hL (k := 2) (by decide)) hx2 dL_law_942 ?_
  refine g_aload_n K dL_law_943 rfl 0 rfl ?_
  refine g_iload_n K dL_law_944 rfl 3 rfl ?_
  refine g_iconst (v := 3) K dL_law_945 (by decide) ?_
  refine g_iadd K dL_law_946 ?_
  refine gL_sld K hX hbl hbA (l_in hi6 hL (k := 3) (by decide)) hx3 dL_law_947 ?_
  rw [← cw_ext (fl := fl)]
  refine g_cutVi (As := [.int x1, .int x2, .int x3]) (bytes := cX11_act) (maxL := 5) (ret := (some .int)) K fl (mw (g_E Γ) m rm o A) (ctX11_act (E := gExt (g_E Γ) fl) (q := q) (r := r) hF o0 A0 C0 h0 o1 A1 C1 h1 o2 A2 C2 h2 gs gA tb tA bf hi x1 x2 x3 (res := (v, t1, ta1)) e1) 0 rfl rfl rfl (gu_V u_866 u_867 u_868 u_68 u_869) rfl qv_X11_act hRm rfl rfl rfl (by decide) (Nat.le_of_ble_eq_true rfl) ⟨by show cl + 0 ≤ 600000; omega, by show sl + 0 ≤ 7302250; omega⟩ dL_law_948 (fun v9 w9 hw => ?_)
  obtain ⟨hv9, rfl⟩ := hw
  obtain rfl : v = v9 := hv9.symm
  rw [cw_ext]
  refine g_aload_n K dL_law_951 rfl 2 rfl ?_
  refine g_aload_n K dL_law_952 rfl 0 rfl ?_
  refine g_iload_n K dL_law_953 rfl 3 rfl ?_
  refine g_iconst (v := 1) K dL_law_954 (by decide) ?_
  refine g_iadd K dL_law_955 ?_
  refine gL_sld K hX hbl hbA (l_in hi6 hL (k := 1) (by decide)) hx1 dL_law_956 ?_
  refine g_aload_n K dL_law_957 rfl 0 rfl ?_
  refine g_iload_n K dL_law_958 rfl 3 rfl ?_
  refine g_iconst (v := 2) K dL_law_959 (by decide) ?_
  refine g_iadd K dL_law_960 ?_
  refine gL_sld K hX hbl hbA (l_in hi6 hL (k := 2) (by decide)) hx2 dL_law_961 ?_
  refine g_aload_n K dL_law_962 rfl 0 rfl ?_
  refine g_iload_n K dL_law_963 rfl 3 rfl ?_
  refine g_iconst (v := 3) K dL_law_964 (by decide) ?_
  refine g_iadd K dL_law_965 ?_
  refine gL_sld K hX hbl hbA (l_in hi6 hL (k := 3) (by decide)) hx3 dL_law_966 ?_
  refine g_r3 ?_
  rw [← mw_ext (fl := [])]
  refine g_cutVi (As := [.int x1, .int x2, .int x3]) (bytes := cX12_act) (maxL := 4) (ret := (some .int)) K [] (_ ++ fl) (ctX12_act (E := gExt (g_E Γ) []) (m := m) (r := rm) o A x1 x2 x3 (res := (v, b17, b18, b19, b20, b21)) e2) 0 rfl rfl rfl (gu_V u_1324 u_1325 u_1326 u_75 u_1327) rfl qv_X12_act hRm rfl rfl rfl (by decide) (Nat.le_of_ble_eq_true rfl) ⟨by show cl + 0 + 0 ≤ 600000; omega, by show sl + 0 + 0 ≤ 7302250; omega⟩ dL_law_967 (fun u9 w9 hw => ?_)
  obtain ⟨hv9, rfl⟩ := hw
  obtain rfl : v = u9 := hv9.symm
  rw [mw_ext]
  refine g_r4 ?_
  refine g_icmp_eq (tgt := 1080) K dL_law_970 (by decide) (fun _ => ?_) (fun qh => absurd rfl qh)
  exact g_wid (by omega) (by omega) (kn _ ⟨F, fl, _, _, _, _, _, _, _, _, _, _, _, _, _, _, _, _, _, _, _, _, rfl, hF, hPL, ⟨⟨W, C, y, Hn, R, T, hS⟩, hR⟩, hhi, hk2, ho4, hT⟩)

set_option maxHeartbeats 4000000 in
set_option maxRecDepth 100000 in
theorem law_trace {Γ : gT} {b L : Nat} {xs : Nat → Int32} {q : Nat → Nat} {r : Nat → Nat → Nat} {m : Nat} {rm : Nat → Nat} (H : LK Γ b L xs) {i : Nat} (hi6 : i + 6 ≤ L) {cl sl : Nat} {ws : va_W} (hc : cl + 10 ≤ 600000) (hs : sl + 311 ≤ 7302250) (hLI : LI (g_E Γ) q r m rm ws) (kn : ∀ ws', LI (g_E Γ) q r m rm ws' → gGO Γ (cl + 10) (sl + 311) 1080 [(0, .ref b), (1, .ref (q 5)), (2, .ref m), (3, .int (nI i))] [] ws') : gGO Γ cl sl 975 [(0, .ref b), (1, .ref (q 5)), (2, .ref m), (3, .int (nI i))] [] ws := by
  obtain ⟨K, hRm, hn4, hfz, hX, hbl, hbA, hL⟩ := H
  obtain ⟨x1, hx1⟩ : ∃ x, xs (nI i + nI 1).toNatClampNeg = x := ⟨_, rfl⟩
  obtain ⟨F, fl, o0, A0, C0, h0, o1, A1, C1, h1, o2, A2, C2, h2, gs, gA, tb, tA, bf, hi, o, A, rfl, hF, hPL, hSW, hhi, hk2, ho4, hTR⟩ := hLI
  obtain ⟨⟨W, C, y, Hn, R, T, hS⟩, hR⟩ := id hSW
  obtain ⟨v, e1, e2⟩ := m_trace hTR x1
  refine g_aload_n K dL_law_975 rfl 1 rfl ?_
  refine g_aload_n K dL_law_976 rfl 0 rfl ?_
  refine g_iload_n K dL_law_977 rfl 3 rfl ?_
  refine g_iconst (v := 1) K dL_law_978 (by decide) ?_
  refine g_iadd K dL_law_979 ?_
  refine gL_sld K hX hbl hbA (l_in hi6 hL (k := 1) (by decide)) hx1 dL_law_980 ?_
  rw [← cw_ext (fl := fl)]
  refine g_cutVi (As := [.int x1]) (bytes := cX11_trace) (maxL := 2) (ret := (some .int)) K fl (mw (g_E Γ) m rm o A) (ctX11_trace (E := gExt (g_E Γ) fl) (q := q) (r := r) hF o0 A0 C0 h0 o1 A1 C1 h1 o2 A2 C2 h2 gs gA tb tA bf hi x1 (res := v) e1) 0 rfl rfl rfl (gu_V u_943 u_944 u_945 u_68 u_946) rfl qv_X11_trace hRm rfl rfl rfl (by decide) (Nat.le_of_ble_eq_true rfl) ⟨by show cl + 0 ≤ 600000; omega, by show sl + 0 ≤ 7302250; omega⟩ dL_law_981 (fun v9 w9 hw => ?_)
  obtain ⟨hv9, rfl⟩ := hw
  obtain rfl : v = v9 := hv9.symm
  rw [cw_ext]
  refine g_aload_n K dL_law_984 rfl 2 rfl ?_
  refine g_aload_n K dL_law_985 rfl 0 rfl ?_
  refine g_iload_n K dL_law_986 rfl 3 rfl ?_
  refine g_iconst (v := 1) K dL_law_987 (by decide) ?_
  refine g_iadd K dL_law_988 ?_
  refine gL_sld K hX hbl hbA (l_in hi6 hL (k := 1) (by decide)) hx1 dL_law_989 ?_
  refine g_r3 ?_
  rw [← mw_ext (fl := [])]
  refine g_cutVi (As := [.int x1]) (bytes := cX12_trace) (maxL := 2) (ret := (some .int)) K [] (_ ++ fl) (ctX12_trace (E := gExt (g_E Γ) []) (m := m) (r := rm) o A x1 (res := v) e2) 0 rfl rfl rfl (gu_V u_1359 u_1360 u_1361 u_75 u_1362) rfl qv_X12_trace hRm rfl rfl rfl (by decide) (Nat.le_of_ble_eq_true rfl) ⟨by show cl + 0 + 0 ≤ 600000; omega, by show sl + 0 + 0 ≤ 7302250; omega⟩ dL_law_990 (fun u9 w9 hw => ?_)
  obtain ⟨hv9, rfl⟩ := hw
  obtain rfl : v = u9 := hv9.symm
  rw [mw_ext]
  refine g_r4 ?_
  refine g_icmp_eq (tgt := 1080) K dL_law_993 (by decide) (fun _ => ?_) (fun qh => absurd rfl qh)
  exact g_wid (by omega) (by omega) (kn _ ⟨F, fl, _, _, _, _, _, _, _, _, _, _, _, _, _, _, _, _, _, _, _, _, rfl, hF, hPL, ⟨⟨W, C, y, Hn, R, T, hS⟩, hR⟩, hhi, hk2, ho4, hTR⟩)

set_option maxHeartbeats 4000000 in
set_option maxRecDepth 100000 in
theorem law_as {Γ : gT} {b L : Nat} {xs : Nat → Int32} {q : Nat → Nat} {r : Nat → Nat → Nat} {m : Nat} {rm : Nat → Nat} (H : LK Γ b L xs) {i : Nat} (hi6 : i + 6 ≤ L) {cl sl : Nat} {ws : va_W} (hc : cl + 10 ≤ 600000) (hs : sl + 311 ≤ 7302250) (hLI : LI (g_E Γ) q r m rm ws) (kn : ∀ ws', LI (g_E Γ) q r m rm ws' → gGO Γ (cl + 10) (sl + 311) 1080 [(0, .ref b), (1, .ref (q 5)), (2, .ref m), (3, .int (nI i))] [] ws') : gGO Γ cl sl 998 [(0, .ref b), (1, .ref (q 5)), (2, .ref m), (3, .int (nI i))] [] ws := by
  obtain ⟨K, hRm, hn4, hfz, hX, hbl, hbA, hL⟩ := H
  obtain ⟨x1, hx1⟩ : ∃ x, xs (nI i + nI 1).toNatClampNeg = x := ⟨_, rfl⟩
  obtain ⟨x2, hx2⟩ : ∃ x, xs (nI i + nI 2).toNatClampNeg = x := ⟨_, rfl⟩
  obtain ⟨F, fl, o0, A0, C0, h0, o1, A1, C1, h1, o2, A2, C2, h2, gs, gA, tb, tA, bf, hi, o, A, rfl, hF, hPL, hSW, hhi, hk2, ho4, hTR⟩ := hLI
  obtain ⟨⟨W, C, y, Hn, R, T, hS⟩, hR⟩ := id hSW
  obtain ⟨v, e1, e2⟩ := m_as hS hR x1 x2
  refine g_aload_n K dL_law_998 rfl 1 rfl ?_
  refine g_aload_n K dL_law_999 rfl 0 rfl ?_
  refine g_iload_n K dL_law_1000 rfl 3 rfl ?_
  refine g_iconst (v := 1) K dL_law_1001 (by decide) ?_
  refine g_iadd K dL_law_1002 ?_
  refine gL_sld K hX hbl hbA (l_in hi6 hL (k := 1) (by decide)) hx1 dL_law_1003 ?_
  refine g_aload_n K dL_law_1004 rfl 0 rfl ?_
  refine g_iload_n K dL_law_1005 rfl 3 rfl ?_
  refine g_iconst (v := 2) K dL_law_1006 (by decide) ?_
  refine g_iadd K dL_law_1007 ?_
  refine gL_sld K hX hbl hbA (l_in hi6 hL (k := 2) (by decide)) hx2 dL_law_1008 ?_
  rw [← cw_ext (fl := fl)]
  refine g_cutVi (As := [.int x1, .int x2]) (bytes := cX11_as) (maxL := 4) (ret := (some .int)) K fl (mw (g_E Γ) m rm o A) (ctX11_as (E := gExt (g_E Γ) fl) (q := q) (r := r) hF o0 A0 C0 h0 o1 A1 C1 h1 o2 A2 C2 h2 gs gA tb tA bf hi x1 x2 (res := v) e1) 0 rfl rfl rfl (gu_V u_947 u_948 u_949 u_68 u_950) rfl qv_X11_as hRm rfl rfl rfl (by decide) (Nat.le_of_ble_eq_true rfl) ⟨by show cl + 0 ≤ 600000; omega, by show sl + 0 ≤ 7302250; omega⟩ dL_law_1009 (fun v9 w9 hw => ?_)
  obtain ⟨hv9, rfl⟩ := hw
  obtain rfl : v = v9 := hv9.symm
  rw [cw_ext]
  refine g_aload_n K dL_law_1012 rfl 2 rfl ?_
  refine g_aload_n K dL_law_1013 rfl 0 rfl ?_
  refine g_iload_n K dL_law_1014 rfl 3 rfl ?_
  refine g_iconst (v := 1) K dL_law_1015 (by decide) ?_
  refine g_iadd K dL_law_1016 ?_
  refine gL_sld K hX hbl hbA (l_in hi6 hL (k := 1) (by decide)) hx1 dL_law_1017 ?_
  refine g_aload_n K dL_law_1018 rfl 0 rfl ?_
  refine g_iload_n K dL_law_1019 rfl 3 rfl ?_
  refine g_iconst (v := 2) K dL_law_1020 (by decide) ?_
  refine g_iadd K dL_law_1021 ?_
  refine gL_sld K hX hbl hbA (l_in hi6 hL (k := 2) (by decide)) hx2 dL_law_1022 ?_
  refine g_r3 ?_
  rw [← mw_ext (fl := [])]
  refine g_cutVi (As := [.int x1, .int x2]) (bytes := cX12_as) (maxL := 3) (ret := (some .int)) K [] (_ ++ fl) (ctX12_as (E := gExt (g_E Γ) []) (m := m) (r := rm) o A x1 x2 (res := v) e2) 0 rfl rfl rfl (gu_V u_1363 u_1364 u_1365 u_75 u_1366) rfl qv_X12_as hRm rfl rfl rfl (by decide) (Nat.le_of_ble_eq_true rfl) ⟨by show cl + 0 + 0 ≤ 600000; omega, by show sl + 0 + 0 ≤ 7302250; omega⟩ dL_law_1023 (fun u9 w9 hw => ?_)
  obtain ⟨hv9, rfl⟩ := hw
  obtain rfl : v = u9 := hv9.symm
  rw [mw_ext]
  refine g_r4 ?_
  refine g_icmp_eq (tgt := 1080) K dL_law_1026 (by decide) (fun _ => ?_) (fun qh => absurd rfl qh)
  exact g_wid (by omega) (by omega) (kn _ ⟨F, fl, _, _, _, _, _, _, _, _, _, _, _, _, _, _, _, _, _, _, _, _, rfl, hF, hPL, ⟨⟨W, C, y, Hn, R, T, hS⟩, hR⟩, hhi, hk2, ho4, hTR⟩)

set_option maxHeartbeats 4000000 in
set_option maxRecDepth 100000 in
theorem law_image {Γ : gT} {b L : Nat} {xs : Nat → Int32} {q : Nat → Nat} {r : Nat → Nat → Nat} {m : Nat} {rm : Nat → Nat} (H : LK Γ b L xs) {i : Nat} (hi6 : i + 6 ≤ L) {cl sl : Nat} {ws : va_W} (hc : cl + 10 ≤ 600000) (hs : sl + 311 ≤ 7302250) (hLI : LI (g_E Γ) q r m rm ws) (kn : ∀ ws', LI (g_E Γ) q r m rm ws' → gGO Γ (cl + 10) (sl + 311) 1080 [(0, .ref b), (1, .ref (q 5)), (2, .ref m), (3, .int (nI i))] [] ws') : gGO Γ cl sl 1031 [(0, .ref b), (1, .ref (q 5)), (2, .ref m), (3, .int (nI i))] [] ws := by
  obtain ⟨K, hRm, hn4, hfz, hX, hbl, hbA, hL⟩ := H
  obtain ⟨F, fl, o0, A0, C0, h0, o1, A1, C1, h1, o2, A2, C2, h2, gs, gA, tb, tA, bf, hi, o, A, rfl, hF, hPL, hSW, hhi, hk2, ho4, hTR⟩ := hLI
  obtain ⟨⟨W, C, y, Hn, R, T, hS⟩, hR⟩ := id hSW
  obtain ⟨v, rr, b2, e1, e2, e3, hW⟩ := m_image hS hR o2 A2 h2 C2 hi (A 2) (o 4)
  refine g_aload_n K dL_law_1031 rfl 1 rfl ?_
  rw [← cw_ext (fl := fl)]
  refine g_cutVi (As := []) (bytes := cX11_image) (maxL := 1) (ret := (some .int)) K fl (mw (g_E Γ) m rm o A) (ctX11_image (E := gExt (g_E Γ) fl) (q := q) (r := r) hF o0 A0 C0 h0 o1 A1 C1 h1 o2 A2 C2 h2 gs gA tb tA bf hi (res := (v, rr)) e1) 0 rfl rfl rfl (gu_V u_962 u_963 u_964 u_68 u_965) rfl qv_X11_image hRm rfl rfl rfl (by decide) (Nat.le_of_ble_eq_true rfl) ⟨by show cl + 0 ≤ 600000; omega, by show sl + 0 ≤ 7302250; omega⟩ dL_law_1032 (fun v9 w9 hw => ?_)
  obtain ⟨hv9, rfl⟩ := hw
  obtain rfl : v = v9 := hv9.symm
  rw [cw_ext]
  refine g_aload_n K dL_law_1035 rfl 2 rfl ?_
  refine g_r3 ?_
  rw [← mw_ext (fl := [])]
  refine g_cutVi (As := []) (bytes := cX12_image) (maxL := 2) (ret := (some .int)) K [] (_ ++ fl) (ctX12_image (E := gExt (g_E Γ) []) (m := m) (r := rm) o A (res := (v, b2, 1)) e2) 0 rfl rfl rfl (gu_V u_1367 u_1368 u_1369 u_75 u_1370) rfl qv_X12_image hRm rfl rfl rfl (by decide) (Nat.le_of_ble_eq_true rfl) ⟨by show cl + 0 + 0 ≤ 600000; omega, by show sl + 0 + 0 ≤ 7302250; omega⟩ dL_law_1036 (fun u9 w9 hw => ?_)
  obtain ⟨hv9, rfl⟩ := hw
  obtain rfl : v = u9 := hv9.symm
  rw [mw_ext]
  refine g_r4 ?_
  refine g_icmp_eq (tgt := 1080) K dL_law_1039 (by decide) (fun _ => ?_) (fun qh => absurd rfl qh)
  exact g_wid (by omega) (by omega) (kn _ ⟨F, fl, _, _, _, _, _, _, _, _, _, _, _, _, _, _, _, _, _, _, _, _, rfl, hF, hPL, ⟨⟨W, C, y, Hn, R, T, hS⟩, hR⟩, Or.inr e3, fun _ => hW, e3.symm, hTR⟩)

set_option maxHeartbeats 4000000 in
set_option maxRecDepth 100000 in
theorem law_undo {Γ : gT} {b L : Nat} {xs : Nat → Int32} {q : Nat → Nat} {r : Nat → Nat → Nat} {m : Nat} {rm : Nat → Nat} (H : LK Γ b L xs) {i : Nat} (hi6 : i + 6 ≤ L) {cl sl : Nat} {ws : va_W} (hc : cl + 10 ≤ 600000) (hs : sl + 311 ≤ 7302250) (hLI : LI (g_E Γ) q r m rm ws) (kn : ∀ ws', LI (g_E Γ) q r m rm ws' → gGO Γ (cl + 10) (sl + 311) 1080 [(0, .ref b), (1, .ref (q 5)), (2, .ref m), (3, .int (nI i))] [] ws') : gGO Γ cl sl 1044 [(0, .ref b), (1, .ref (q 5)), (2, .ref m), (3, .int (nI i))] [] ws := by
  obtain ⟨K, hRm, hn4, hfz, hX, hbl, hbA, hL⟩ := H
  obtain ⟨F, fl, o0, A0, C0, h0, o1, A1, C1, h1, o2, A2, C2, h2, gs, gA, tb, tA, bf, hi, o, A, rfl, hF, hPL, hSW, hhi, hk2, ho4, hTR⟩ := hLI
  obtain ⟨⟨W, C, y, Hn, R, T, hS⟩, hR⟩ := id hSW
  obtain ⟨v, rr, t, e1, e2, hW⟩ := m_undo (o := o0) (A := A0) (Cf := C0) (h := h0) (s := A 1) (t := A 1) hhi hk2
  rw [← ho4] at e2
  refine g_aload_n K dL_law_1044 rfl 1 rfl ?_
  rw [← cw_ext (fl := fl)]
  refine g_cutVi (As := []) (bytes := cX11_undo) (maxL := 1) (ret := (some .int)) K fl (mw (g_E Γ) m rm o A) (ctX11_undo (E := gExt (g_E Γ) fl) (q := q) (r := r) hF o0 A0 C0 h0 o1 A1 C1 h1 o2 A2 C2 h2 gs gA tb tA bf hi (res := (v, rr)) e1) 0 rfl rfl rfl (gu_V u_966 u_967 u_968 u_68 u_969) rfl qv_X11_undo hRm rfl rfl rfl (by decide) (Nat.le_of_ble_eq_true rfl) ⟨by show cl + 0 ≤ 600000; omega, by show sl + 0 ≤ 7302250; omega⟩ dL_law_1045 (fun v9 w9 hw => ?_)
  obtain ⟨hv9, rfl⟩ := hw
  obtain rfl : v = v9 := hv9.symm
  rw [cw_ext]
  refine g_aload_n K dL_law_1048 rfl 2 rfl ?_
  refine g_r3 ?_
  rw [← mw_ext (fl := [])]
  refine g_cutVi (As := []) (bytes := cX12_undo) (maxL := 2) (ret := (some .int)) K [] (_ ++ fl) (ctX12_undo (E := gExt (g_E Γ) []) (m := m) (r := rm) o A (res := (v, t)) e2) 0 rfl rfl rfl (gu_V u_1371 u_1372 u_1373 u_75 u_1374) rfl qv_X12_undo hRm rfl rfl rfl (by decide) (Nat.le_of_ble_eq_true rfl) ⟨by show cl + 0 + 0 ≤ 600000; omega, by show sl + 0 + 0 ≤ 7302250; omega⟩ dL_law_1049 (fun u9 w9 hw => ?_)
  obtain ⟨hv9, rfl⟩ := hw
  obtain rfl : v = u9 := hv9.symm
  rw [mw_ext]
  refine g_r4 ?_
  refine g_icmp_eq (tgt := 1080) K dL_law_1052 (by decide) (fun _ => ?_) (fun qh => absurd rfl qh)
  exact g_wid (by omega) (by omega) (kn _ ⟨F, fl, _, _, _, _, _, _, _, _, _, _, _, _, _, _, _, _, _, _, _, _, rfl, hF, hPL, hW hSW, hhi, hk2, ho4, hTR⟩)

set_option maxHeartbeats 4000000 in
set_option maxRecDepth 100000 in
theorem law_count {Γ : gT} {b L : Nat} {xs : Nat → Int32} {q : Nat → Nat} {r : Nat → Nat → Nat} {m : Nat} {rm : Nat → Nat} (H : LK Γ b L xs) {i : Nat} (hi6 : i + 6 ≤ L) {cl sl : Nat} {ws : va_W} (hc : cl + 10 ≤ 600000) (hs : sl + 311 ≤ 7302250) (hLI : LI (g_E Γ) q r m rm ws) (kn : ∀ ws', LI (g_E Γ) q r m rm ws' → gGO Γ (cl + 10) (sl + 311) 1080 [(0, .ref b), (1, .ref (q 5)), (2, .ref m), (3, .int (nI i))] [] ws') : gGO Γ cl sl 1057 [(0, .ref b), (1, .ref (q 5)), (2, .ref m), (3, .int (nI i))] [] ws := by
  obtain ⟨K, hRm, hn4, hfz, hX, hbl, hbA, hL⟩ := H
  obtain ⟨x1, hx1⟩ : ∃ x, xs (nI i + nI 1).toNatClampNeg = x := ⟨_, rfl⟩
  obtain ⟨F, fl, o0, A0, C0, h0, o1, A1, C1, h1, o2, A2, C2, h2, gs, gA, tb, tA, bf, hi, o, A, rfl, hF, hPL, hSW, hhi, hk2, ho4, hTR⟩ := hLI
  obtain ⟨⟨W, C, y, Hn, R, T, hS⟩, hR⟩ := id hSW
  obtain ⟨v, e1, e2⟩ := m_count hR tb x1
  have ht18 : tb = o 18 := by obtain ⟨bb, _, z1, z2, _⟩ := hTR; exact z1.trans z2.symm
  rw [ht18] at e2
  refine g_aload_n K dL_law_1057 rfl 1 rfl ?_
  refine g_aload_n K dL_law_1058 rfl 0 rfl ?_
  refine g_iload_n K dL_law_1059 rfl 3 rfl ?_
  refine g_iconst (v := 1) K dL_law_1060 (by decide) ?_
  refine g_iadd K dL_law_1061 ?_
  refine gL_sld K hX hbl hbA (l_in hi6 hL (k := 1) (by decide)) hx1 dL_law_1062 ?_
  rw [← cw_ext (fl := fl)]
  refine g_cutVi (As := [.int x1]) (bytes := cX11_count) (maxL := 2) (ret := (some .int)) K fl (mw (g_E Γ) m rm o A) (ctX11_count (E := gExt (g_E Γ) fl) (q := q) (r := r) hF o0 A0 C0 h0 o1 A1 C1 h1 o2 A2 C2 h2 gs gA tb tA bf hi x1 (res := v) e1) 0 rfl rfl rfl (gu_V u_970 u_971 u_972 u_68 u_973) rfl qv_X11_count hRm rfl rfl rfl (by decide) (Nat.le_of_ble_eq_true rfl) ⟨by show cl + 0 ≤ 600000; omega, by show sl + 0 ≤ 7302250; omega⟩ dL_law_1063 (fun v9 w9 hw => ?_)
  obtain ⟨hv9, rfl⟩ := hw
  obtain rfl : v = v9 := hv9.symm
  rw [cw_ext]
  refine g_aload_n K dL_law_1066 rfl 2 rfl ?_
  refine g_aload_n K dL_law_1067 rfl 0 rfl ?_
  refine g_iload_n K dL_law_1068 rfl 3 rfl ?_
  refine g_iconst (v := 1) K dL_law_1069 (by decide) ?_
  refine g_iadd K dL_law_1070 ?_
  refine gL_sld K hX hbl hbA (l_in hi6 hL (k := 1) (by decide)) hx1 dL_law_1071 ?_
  refine g_r3 ?_
  rw [← mw_ext (fl := [])]
  refine g_cutVi (As := [.int x1]) (bytes := cX12_count) (maxL := 2) (ret := (some .int)) K [] (_ ++ fl) (ctX12_count (E := gExt (g_E Γ) []) (m := m) (r := rm) o A x1 (res := v) e2) 0 rfl rfl rfl (gu_V u_1375 u_1376 u_1377 u_75 u_1378) rfl qv_X12_count hRm rfl rfl rfl (by decide) (Nat.le_of_ble_eq_true rfl) ⟨by show cl + 0 + 0 ≤ 600000; omega, by show sl + 0 + 0 ≤ 7302250; omega⟩ dL_law_1072 (fun u9 w9 hw => ?_)
  obtain ⟨hv9, rfl⟩ := hw
  obtain rfl : v = u9 := hv9.symm
  rw [mw_ext]
  refine g_r4 ?_
  refine g_icmp_eq (tgt := 1080) K dL_law_1075 (by decide) (fun _ => ?_) (fun qh => absurd rfl qh)
  exact g_wid (by omega) (by omega) (kn _ ⟨F, fl, _, _, _, _, _, _, _, _, _, _, _, _, _, _, _, _, _, _, _, _, rfl, hF, hPL, ⟨⟨W, C, y, Hn, R, T, hS⟩, hR⟩, hhi, hk2, ho4, hTR⟩)

set_option maxHeartbeats 4000000 in
set_option maxRecDepth 100000 in
theorem law_asked {Γ : gT} {b L : Nat} {xs : Nat → Int32} {q : Nat → Nat} {r : Nat → Nat → Nat} {m : Nat} {rm : Nat → Nat} (H : LK Γ b L xs) {i : Nat} (hi6 : i + 6 ≤ L) {cl sl : Nat} {ws : va_W} (hc : cl + 10 ≤ 600000) (hs : sl + 311 ≤ 7302250) (hLI : LI (g_E Γ) q r m rm ws) (kn : ∀ ws', LI (g_E Γ) q r m rm ws' → gGO Γ (cl + 10) (sl + 311) 1080 [(0, .ref b), (1, .ref (q 5)), (2, .ref m), (3, .int (nI i))] [] ws') : gGO Γ cl sl 620 [(0, .ref b), (1, .ref (q 5)), (2, .ref m), (3, .int (nI i))] [] ws := by
  obtain ⟨K, hRm, hn4, hfz, hX, hbl, hbA, hL⟩ := H
  obtain ⟨x1, hx1⟩ : ∃ x, xs (nI i + nI 1).toNatClampNeg = x := ⟨_, rfl⟩
  obtain ⟨x2, hx2⟩ : ∃ x, xs (nI i + nI 2).toNatClampNeg = x := ⟨_, rfl⟩
  obtain ⟨F, fl, o0, A0, C0, h0, o1, A1, C1, h1, o2, A2, C2, h2, gs, gA, tb, tA, bf, hi, o, A, rfl, hF, hPL, hSW, hhi, hk2, ho4, hTR⟩ := hLI
  obtain ⟨⟨W, C, y, Hn, R, T, hS⟩, hR⟩ := id hSW
  refine g_aload_n K dL_law_620 rfl 1 rfl ?_
  refine g_aload_n K dL_law_621 rfl 0 rfl ?_
  refine g_iload_n K dL_law_622 rfl 3 rfl ?_
  refine g_iconst (v := 1) K dL_law_623 (by decide) ?_
  refine g_iadd K dL_law_624 ?_
  refine gL_sld K hX hbl hbA (l_in hi6 hL (k := 1) (by decide)) hx1 dL_law_625 ?_
  refine g_aload_n K dL_law_626 rfl 0 rfl ?_
  refine g_iload_n K dL_law_627 rfl 3 rfl ?_
  refine g_iconst (v := 2) K dL_law_628 (by decide) ?_
  refine g_iadd K dL_law_629 ?_
  refine gL_sld K hX hbl hbA (l_in hi6 hL (k := 2) (by decide)) hx2 dL_law_630 ?_
  rw [← cw_ext (fl := fl)]
  refine g_cutVi (As := [.int x1, .int x2]) (bytes := cX11_asked) (maxL := 6) (ret := (some .int)) K fl (mw (g_E Γ) m rm o A) (ctX11_asked (E := gExt (g_E Γ) fl) (q := q) (r := r) hF o0 A0 C0 h0 o1 A1 C1 h1 o2 A2 C2 h2 gs gA tb tA bf hi hS hR (A 10) (A 11) (A 12) (A 13) (A 15) x1 x2) 0 rfl rfl rfl (gu_V u_770 u_771 u_772 u_68 u_773) rfl qv_X11_asked hRm rfl rfl rfl (by decide) (Nat.le_of_ble_eq_true rfl) ⟨by show cl + 10 ≤ 600000; omega, by show sl + 40 ≤ 7302250; omega⟩ dL_law_631 (fun v9 w9 hw => ?_)
  obtain ⟨⟨rr2, e2⟩, gs9, gA9, rfl⟩ := hw
  rw [cw_ext]
  refine g_aload_n K dL_law_634 rfl 2 rfl ?_
  refine g_aload_n K dL_law_635 rfl 0 rfl ?_
  refine g_iload_n K dL_law_636 rfl 3 rfl ?_
  refine g_iconst (v := 1) K dL_law_637 (by decide) ?_
  refine g_iadd K dL_law_638 ?_
  refine gL_sld K hX hbl hbA (l_in hi6 hL (k := 1) (by decide)) hx1 dL_law_639 ?_
  refine g_aload_n K dL_law_640 rfl 0 rfl ?_
  refine g_iload_n K dL_law_641 rfl 3 rfl ?_
  refine g_iconst (v := 2) K dL_law_642 (by decide) ?_
  refine g_iadd K dL_law_643 ?_
  refine gL_sld K hX hbl hbA (l_in hi6 hL (k := 2) (by decide)) hx2 dL_law_644 ?_
  refine g_r3 ?_
  rw [← mw_ext (fl := [])]
  refine g_cutVi (As := [.int x1, .int x2]) (bytes := cX12_asked) (maxL := 8) (ret := (some .int)) K [] (_ ++ fl) (ctX12_asked (E := gExt (g_E Γ) []) (m := m) (r := rm) o A x1 x2 (res := (v9, A 1, rr2)) e2) 0 rfl rfl rfl (gu_V u_1242 u_1243 u_1244 u_75 u_1245) rfl qv_X12_asked hRm rfl rfl rfl (by decide) (Nat.le_of_ble_eq_true rfl) ⟨by show cl + 10 + 0 ≤ 600000; omega, by show sl + 40 + 0 ≤ 7302250; omega⟩ dL_law_645 (fun u9 w9 hw => ?_)
  obtain ⟨hv9, rfl⟩ := hw
  obtain rfl : v9 = u9 := hv9.symm
  rw [mw_ext]
  refine g_r4 ?_
  refine g_icmp_eq (tgt := 1080) K dL_law_648 (by decide) (fun _ => ?_) (fun qh => absurd rfl qh)
  exact g_wid (by omega) (by omega) (kn _ ⟨F, fl, _, _, _, _, _, _, _, _, _, _, _, _, _, _, _, _, _, _, _, _, rfl, hF, hPL, ⟨⟨W, C, y, Hn, R, T, hS⟩, hR⟩, hhi, hk2, ho4, hTR⟩)
