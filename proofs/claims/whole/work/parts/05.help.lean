/-! THE PURE SIDE: what the generated functions are made of, and how a walk takes them apart -/
def ginb (i : Int32) (n : Nat) : Bool := !(decide (i < 0)) && decide (i.toNatClampNeg < n)
def gbool (v : Int32) : Bool := decide (v = 0) || decide (v = 1)
def gck {α : Type} (c : Prop) [Decidable c] (x : Option α) : Option α := if c then x else none
def gnm {α β : Type} (x : α) (f : α → β) : β := f x
def gbd {α β : Type} (x : Option α) (f : α → Option β) : Option β := x.bind f
/-- one place of a function told anew -/
def gu {α : Type} (f : Nat → α) (k : Nat) (v : α) : Nat → α := fun j => bif Nat.beq j k then v else f j
theorem ginb_in {i : Int32} {n : Nat} (h : ginb i n = true) : vp_in i n := by
  simp only [ginb, Bool.and_eq_true, Bool.not_eq_true', decide_eq_true_eq, decide_eq_false_iff_not] at h
  exact fun z => z.elim h.1 (fun z => absurd h.2 (by omega))
theorem gbool_nar {v : Int32} (h : gbool v = true) : narrow .boolean (.int v) = .int v := by
  simp only [gbool, Bool.or_eq_true, decide_eq_true_eq] at h
  rcases h with rfl | rfl <;> decide
theorem gbool_fit {v : Int32} (h : gbool v = true) : fits .boolean (.int v) = true := by
  simp only [gbool, Bool.or_eq_true, decide_eq_true_eq] at h
  rcases h with rfl | rfl <;> decide
theorem gi_none {α : Type} {c : Prop} [Decidable c] {x : Option α} {r : α} (h : gck c x = some r) : c ∧ x = some r := by
  unfold gck at h
  split at h
  · exact ⟨‹_›, h⟩
  · cases h
theorem gi_nm {α β : Type} {x : α} {f : α → Option β} {r : β} (h : gnm x f = some r) : ∃ v, v = x ∧ f v = some r := ⟨x, rfl, h⟩
theorem gi_bd {α β : Type} {x : Option α} {f : α → Option β} {r : β} (h : gbd x f = some r) : ∃ z, x = some z ∧ f z = some r := by
  cases x with
  | none => cases h
  | some z => exact ⟨z, rfl, h⟩
theorem gi_br {α : Type} {c : Prop} [Decidable c] {x y : Option α} {r : α} (h : (if c then x else y) = some r) : (c → x = some r) ∧ (¬ c → y = some r) := by
  refine ⟨fun q => ?_, fun q => ?_⟩
  · rw [if_pos q] at h; exact h
  · rw [if_neg q] at h; exact h
theorem gi_ne {x v : Int32} {z : Int} (h : ¬ x = v) (hv : v.toInt = z) : x.toInt ≠ z := fun e => h (Int32.toInt_inj.mp (e.trans hv.symm))
section TOP
variable {Γ : gT} {cl sl pc : Nat} {L : List (Nat × Value)} {st : List Value} {ws : va_W}
theorem g_topi {x y : Int32} (e : y = x) (k : gGO Γ cl sl pc L (.int y :: st) ws) : gGO Γ cl sl pc L (.int x :: st) ws := by rw [← e]; exact k
theorem g_topl {x y : Int64} (e : y = x) (k : gGO Γ cl sl pc L (.long y :: st) ws) : gGO Γ cl sl pc L (.long x :: st) ws := by rw [← e]; exact k
end TOP
