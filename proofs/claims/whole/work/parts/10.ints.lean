/-! Numbers: Int32 as whole numbers. -/
def iI (z : Int) : Int32 := Int32.ofInt z
theorem iI_toInt {z : Int} (h1 : -2147483648 ≤ z) (h2 : z ≤ 2147483647) : (iI z).toInt = z := Int32.toInt_ofInt_of_le (by omega) (by omega)
theorem nI_iI (n : Nat) : nI n = iI n := (Int32.ofInt_eq_ofNat).symm
theorem iI_add (a b : Int) : iI a + iI b = iI (a + b) := (Int32.ofInt_add a b).symm
theorem iI_sub (a b : Int) : iI a - iI b = iI (a - b) := (Int32.ofInt_sub a b).symm
theorem iI_mul (a b : Int) : iI a * iI b = iI (a * b) := (Int32.ofInt_mul a b).symm
theorem iI_lt {a b : Int} (h1 : -2147483648 ≤ a) (h2 : a ≤ 2147483647) (h3 : -2147483648 ≤ b) (h4 : b ≤ 2147483647) : iI a < iI b ↔ a < b := by
  rw [Int32.lt_iff_toInt_lt, iI_toInt h1 h2, iI_toInt h3 h4]
theorem iI_le {a b : Int} (h1 : -2147483648 ≤ a) (h2 : a ≤ 2147483647) (h3 : -2147483648 ≤ b) (h4 : b ≤ 2147483647) : iI a ≤ iI b ↔ a ≤ b := by
  rw [Int32.le_iff_toInt_le, iI_toInt h1 h2, iI_toInt h3 h4]
theorem iI_eq {a b : Int} (h1 : -2147483648 ≤ a) (h2 : a ≤ 2147483647) (h3 : -2147483648 ≤ b) (h4 : b ≤ 2147483647) : iI a = iI b ↔ a = b := by
  rw [← Int32.toInt_inj, iI_toInt h1 h2, iI_toInt h3 h4]
/-- an end less the window -/
theorem nI_sub8 (n : Nat) : nI n - 8 = iI ((n : Int) - 8) := by rw [nI_iI, ← iI_sub]; rfl
theorem nI_subI (a b : Nat) : nI a - nI b = iI ((a : Int) - b) := by rw [nI_iI, nI_iI, iI_sub]
theorem nI_div {n d : Nat} (h : n < 2147483648) (hd : 1 < d) (h2 : d < 2147483648) : nI n / nI d = nI (n / d) := by
  have e : (nI d).toInt = d := nI_toInt h2
  have h3 : nI d ≠ -1 := fun q => by
    have := congrArg Int32.toInt q
    rw [e] at this
    have h5 : (-1 : Int32).toInt = -1 := by decide
    omega
  have h4 : n / d < 2147483648 := Nat.lt_of_le_of_lt (Nat.div_le_self n d) h
  rw [← Int32.toInt_inj, Int32.toInt_div_of_ne_right _ _ h3, e, nI_toInt h, nI_toInt h4]
  exact Int.ofNat_tdiv n d
theorem nI_mul (a b : Nat) : nI a * nI b = nI (a * b) := by rw [nI_iI, nI_iI, iI_mul, nI_iI]; rfl
theorem nI_sub {a b : Nat} (h : b ≤ a) : nI a - nI b = nI (a - b) := by rw [nI_subI, nI_iI]; congr 1; omega
theorem nI_rem {n d : Nat} (h : n < 2147483648) (hd : 1 < d) (h2 : d < 2147483648) : nI n - nI n / nI d * nI d = nI (n % d) := by
  rw [nI_div h hd h2, nI_mul, nI_sub (Nat.div_mul_le_self n d)]
  congr 1
  have := Nat.div_add_mod n d
  have h3 : d * (n / d) = n / d * d := Nat.mul_comm _ _
  omega
theorem nI_rem8 {n : Nat} (h : n < 2147483648) : nI n - nI n / 8 * 8 = nI (n % 8) := nI_rem (d := 8) h (by omega) (by omega)
theorem vp_in8 (n : Nat) : vp_in (nI (n % 8)) 8 := vp_in_nI (Nat.mod_lt n (by omega)) (by omega)
theorem nI_c {n : Nat} (h : n < 2147483648) : (nI n).toNatClampNeg = n := nI_clamp h
theorem nI_c8 (n : Nat) : (nI (n % 8)).toNatClampNeg = n % 8 := nI_clamp (Nat.lt_of_lt_of_le (Nat.mod_lt n (by omega)) (by omega))
def bI (b : Bool) : Int32 := if b then 1 else 0
theorem narrow_bI (b : Bool) : narrow .boolean (.int (bI b)) = .int (bI b) := by cases b <;> rfl
theorem narrow_1b : narrow .boolean (.int 1) = .int 1 := rfl
theorem narrow_0b : narrow .boolean (.int 0) = .int 0 := rfl
/-- a method's room, at depth d, with k new cells of n slots -/
abbrev rmA (d k n : Nat) : Room := { frames := d, cells := k, slots := n, locals := 35 * d }
abbrev rm (d : Nat) : Room := rmA d 0 0
