/-! What a command does to the table; bits of 'held'. -/
/-- a command: kind, key, value -/
abbrev pCm : Type := Nat × Nat × Int32
/-- a table: which keys are there, their values -/
abbrev pT : Type := (Nat → Bool) × (Nat → Int32)
def tS (c : pCm) (t : pT) : pT :=
  if c.1 = 0 then (va_up t.1 c.2.1 true, va_up t.2 c.2.1 c.2.2)
  else if c.1 = 1 then (va_up t.1 c.2.1 false, va_up t.2 c.2.1 0)
  else if c.1 = 3 then (va_up t.1 c.2.1 true, va_up t.2 c.2.1 (t.2 c.2.1 + c.2.2))
  else if c.1 = 4 ∧ nI c.2.1 ≠ c.2.2 then (va_up (va_up t.1 c.2.1 false) c.2.2.toNatClampNeg (t.1 c.2.1), va_up (va_up t.2 c.2.2.toNatClampNeg (t.2 c.2.1)) c.2.1 0)
  else t
def tA (c : pCm) (t : pT) : Int32 :=
  if c.1 = 2 then t.2 c.2.1 else if c.1 = 3 then t.2 c.2.1 + c.2.2 else bI (t.1 c.2.1)
def tab (cm : Nat → pCm) : Nat → pT
  | 0 => (fun _ => false, fun _ => 0)
  | n + 1 => tS (cm n) (tab cm n)
def tAns (cm : Nat → pCm) (i : Nat) : Int32 := tA (cm i) (tab cm i)
/-- a command that give takes -/
def cOk (c : pCm) : Prop := c.1 ≤ 4 ∧ c.2.1 < 40 ∧ (c.1 = 4 → ∃ j, j < 40 ∧ c.2.2 = nI j)
def bt (k : Nat) : Int64 := 1 <<< ((nI k).toInt64 &&& 63)
theorem bt_bit : ∀ k, k < 40 → ∀ j, j < 64 → (bt k).toBitVec.getLsbD j = decide (j = k) := by decide +kernel
theorem bn_bit : ∀ k, k < 40 → ∀ j, j < 64 → (bt k ^^^ (-1)).toBitVec.getLsbD j = !decide (j = k) := by decide +kernel
theorem b0_bit : ∀ k, k < 40 → ((0 : Int32).toInt64 <<< ((nI k).toInt64 &&& 63) : Int64) = 0 := by decide +kernel
theorem b1_bit : ∀ k, k < 40 → ((1 : Int32).toInt64 <<< ((nI k).toInt64 &&& 63) : Int64) = bt k := by decide +kernel
/-- held says which keys are there -/
def hOk (h : Int64) (hs : Nat → Bool) : Prop := ∀ k, k < 40 → h.toBitVec.getLsbD k = hs k
theorem hOk_and {h : Int64} {k : Nat} (hk : k < 40) : (h &&& bt k = 0) ↔ h.toBitVec.getLsbD k = false := by
  constructor
  · intro e
    have e1 := congrArg (fun z : Int64 => z.toBitVec.getLsbD k) e
    simp only [Int64.toBitVec_and, BitVec.getLsbD_and, bt_bit k hk k (by omega)] at e1
    simpa using e1
  · intro e
    apply Int64.toBitVec.inj
    apply BitVec.eq_of_getLsbD_eq
    intro i hi
    rw [Int64.toBitVec_and, BitVec.getLsbD_and, bt_bit k hk i hi]
    by_cases q : i = k
    · subst q
      simp [e]
    · simp [q]
theorem hOk_set {h : Int64} {hs : Nat → Bool} {k : Nat} (hk : k < 40) (H : hOk h hs) : hOk (h ||| bt k) (va_up hs k true) := by
  intro j hj
  rw [Int64.toBitVec_or, BitVec.getLsbD_or, bt_bit k hk j (by omega), H j hj]
  by_cases q : j = k
  · simp [q, va_up]
  · simp [q, va_up]
theorem hOk_clear {h : Int64} {hs : Nat → Bool} {k : Nat} (hk : k < 40) (H : hOk h hs) : hOk (h &&& (bt k ^^^ (-1))) (va_up hs k false) := by
  intro j hj
  rw [Int64.toBitVec_and, BitVec.getLsbD_and, bn_bit k hk j (by omega), H j hj]
  by_cases q : j = k
  · simp [q, va_up]
  · simp [q, va_up]
theorem hOk_move {h : Int64} {hs : Nat → Bool} {k v : Nat} (hk : k < 40) (hv : v < 40) (H : hOk h hs) (b : Bool) (x : Int64) (hx : x = if b then bt v else 0) : hOk (h &&& (bt k ^^^ (-1)) &&& (bt v ^^^ (-1)) ||| x) (va_up (va_up hs k false) v b) := by
  intro j hj
  rw [Int64.toBitVec_or, BitVec.getLsbD_or, Int64.toBitVec_and, BitVec.getLsbD_and, Int64.toBitVec_and, BitVec.getLsbD_and, bn_bit k hk j (by omega), bn_bit v hv j (by omega), H j hj, hx]
  have e0 : (0 : Int64).toBitVec.getLsbD j = false := by simp
  cases b
  · rw [if_neg (by decide), e0]
    by_cases q : j = v
    · simp [q, va_up]
    · by_cases q2 : j = k
      · simp [q, q2, va_up]
      · simp [q, q2, va_up]
  · rw [if_pos rfl, bt_bit v hv j (by omega)]
    by_cases q : j = v
    · simp [q, va_up]
    · by_cases q2 : j = k
      · simp [q, q2, va_up]
      · simp [q, q2, va_up]
theorem hOk_has {h : Int64} {hs : Nat → Bool} {k : Nat} (hk : k < 40) (H : hOk h hs) : ((h.toUInt64 >>> ((nI k).toInt64.toUInt64 &&& Int64.toUInt64 63)).toInt64 &&& 1 = 0) ↔ hs k = false := by
  have e : (nI k).toInt64.toUInt64 &&& Int64.toUInt64 63 = UInt64.ofNat k := by
    have : ∀ k, k < 40 → (nI k).toInt64.toUInt64 &&& Int64.toUInt64 63 = UInt64.ofNat k := by decide +kernel
    exact this k hk
  rw [e, ← H k hk]
  have b : ((h.toUInt64 >>> UInt64.ofNat k).toInt64 &&& 1).toBitVec = (h.toBitVec >>> k) &&& 1#64 := by
    show (h.toUInt64 >>> UInt64.ofNat k).toBitVec &&& 1#64 = _
    have e2 : (h.toUInt64 >>> UInt64.ofNat k).toBitVec = h.toBitVec >>> k := by
      rw [UInt64.toBitVec_shiftRight]
      show h.toBitVec >>> ((UInt64.ofNat k).toBitVec % 64#64) = _
      rw [BitVec.ushiftRight_eq']
      congr 1
      simp
      omega
    rw [e2]
  constructor
  · intro q
    have q1 := congrArg (fun z : Int64 => z.toBitVec.getLsbD 0) q
    simp only [b] at q1
    simpa using q1
  · intro q
    apply Int64.toBitVec.inj
    rw [b]
    apply BitVec.eq_of_getLsbD_eq
    intro i hi
    by_cases q0 : i = 0
    · subst q0
      simp [q]
    · simp [q0]
