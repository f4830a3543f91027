/-! PURE SIDE: nets -/
/-- who are joined: four chiefs, symmetric -/
def mm (a01 a02 a03 a12 a13 a23 : Bool) (x y : Nat) : Bool :=
  if x = 0 then (if y = 1 then a01 else if y = 2 then a02 else if y = 3 then a03 else false)
  else if x = 1 then (if y = 0 then a01 else if y = 2 then a12 else if y = 3 then a13 else false)
  else if x = 2 then (if y = 0 then a02 else if y = 1 then a12 else if y = 3 then a23 else false)
  else if x = 3 then (if y = 0 then a03 else if y = 1 then a13 else if y = 2 then a23 else false)
  else false
def bt4 (b c : Nat) : Bool := b / 2 ^ c % 2 == 1
def sb (b d : Nat) : Nat := if bt4 b d = true then b else b + 2 ^ d
/-- the reference: a chief's row is added, in place -/
def nin (m : Nat → Nat → Bool) (c : Nat) : Nat → Nat → Nat → Nat
  | 0, _, b => b
  | k + 1, d, b => nin m c k (d + 1) (if bt4 b c = true ∧ m c d = true then sb b d else b)
def nou (m : Nat → Nat → Bool) : Nat → Nat → Nat → Nat
  | 0, _, b => b
  | k + 1, c, b => nou m k (c + 1) (nin m c 4 0 b)
def nro (m : Nat → Nat → Bool) : Nat → Nat → Nat
  | 0, b => b
  | k + 1, b => nro m k (nou m 4 0 b)
/-- the component: all that are joined to one in the net -/
def nbd (m : Nat → Nat → Bool) (b d : Nat) : Bool := (bt4 b 0 && m 0 d) || (bt4 b 1 && m 1 d) || (bt4 b 2 && m 2 d) || (bt4 b 3 && m 3 d)
def nbs (m : Nat → Nat → Bool) (b : Nat) : Nat := b1 (nbd m b 0) + 2 * b1 (nbd m b 1) + 4 * b1 (nbd m b 2) + 8 * b1 (nbd m b 3)
def nor4 (a b : Nat) : Nat := b1 (bt4 a 0 || bt4 b 0) + 2 * b1 (bt4 a 1 || bt4 b 1) + 4 * b1 (bt4 a 2 || bt4 b 2) + 8 * b1 (bt4 a 3 || bt4 b 3)
def nco (m : Nat → Nat → Bool) : Nat → Nat → Nat
  | 0, b => b
  | k + 1, b => nco m k (nor4 b (nbs m b))
theorem net_fin : ∀ a01 a02 a03 a12 a13 a23 : Bool, ∀ ch, ch < 4 → nro (mm a01 a02 a03 a12 a13 a23) 4 (2 ^ ch) = nco (mm a01 a02 a03 a12 a13 a23) 3 (2 ^ ch) := by decide +kernel
theorem bt_16 : ∀ b, b < 16 → ∀ c, c < 4 → (((nI b >>> (nI c &&& nI 31)) &&& nI 1 = nI 1) ↔ bt4 b c = true) ∧ (((nI b &&& (nI 1 <<< (nI c &&& nI 31))) = nI 0) ↔ ¬ bt4 b c = true) ∧ nI b ||| (nI 1 <<< (nI c &&& nI 31)) = nI (sb b c) ∧ sb b c < 16 := by decide +kernel
theorem sbt_at : ∀ b, b < 16 → ∀ c, c < 4 → ∀ d, d < 4 → (bt4 (sb b c) d = true ↔ bt4 b d = true ∨ d = c) := by decide +kernel
theorem or_16 : ∀ a, a < 16 → ∀ b, b < 16 → nI a ||| nI b = nI (nor4 a b) ∧ nor4 a b < 16 := by decide +kernel
theorem nor_at : ∀ a, a < 16 → ∀ b, b < 16 → ∀ d, d < 4 → (bt4 (nor4 a b) d = true ↔ bt4 a d = true ∨ bt4 b d = true) := by decide +kernel
theorem bt_ext : ∀ a, a < 16 → ∀ b, b < 16 → (bt4 a 0 = bt4 b 0 ∧ bt4 a 1 = bt4 b 1 ∧ bt4 a 2 = bt4 b 2 ∧ bt4 a 3 = bt4 b 3) → a = b := by decide +kernel
theorem p2_16 : ∀ c, c < 4 → nI 1 <<< (nI c &&& nI 31) = nI (2 ^ c) ∧ 2 ^ c < 16 := by decide +kernel
theorem nbs_lt (m : Nat → Nat → Bool) (b : Nat) : nbs m b < 16 := by
  have h0 := b1_lt (nbd m b 0)
  have h1 := b1_lt (nbd m b 1)
  have h2 := b1_lt (nbd m b 2)
  have h3 := b1_lt (nbd m b 3)
  unfold nbs; omega
theorem b4_at : ∀ p q r u : Bool, (bt4 (b1 p + 2 * b1 q + 4 * b1 r + 8 * b1 u) 0 = p ∧ bt4 (b1 p + 2 * b1 q + 4 * b1 r + 8 * b1 u) 1 = q ∧ bt4 (b1 p + 2 * b1 q + 4 * b1 r + 8 * b1 u) 2 = r ∧ bt4 (b1 p + 2 * b1 q + 4 * b1 r + 8 * b1 u) 3 = u) := by decide
