/-! Methods of the JDK. -/
section JDK
variable {l : Launch} {G : mm_G} {M : mm_M} {sz : Nat}
theorem c_min {x y : Int32} : CT l G Y_Math_min ds_Math_min (rm 1) [.int x, .int y] M sz (fun r M' sz' => r = some (.int (if x ≤ y then x else y)) ∧ M' = M ∧ sz' = sz) := by
  refine CT.ofF (by decide +kernel) (Nat.le_of_ble_eq_true rfl) ?_
  refine rw_iload_n d_Math_min_0 rfl ?_
  refine rw_iload_n d_Math_min_1 rfl ?_
  refine rw_icmp_gt (tgt := 9) d_Math_min_2 (by decide) (fun q => ?_) (fun q => ?_)
  · refine rw_iload_n d_Math_min_9 rfl ?_
    refine rw_iret d_Math_min_10 rfl ⟨?_, rfl, rfl⟩
    rw [if_neg (fun z => absurd q (Int32.not_lt.mpr z))]
  · refine rw_iload_n d_Math_min_5 rfl ?_
    refine rw_goto (tgt := 10) d_Math_min_6 (by decide) ?_
    refine rw_iret d_Math_min_10 rfl ⟨?_, rfl, rfl⟩
    rw [if_pos (Int32.not_lt.mp q)]
theorem c_max {x y : Int32} : CT l G Y_Math_max ds_Math_max (rm 1) [.int x, .int y] M sz (fun r M' sz' => r = some (.int (if y ≤ x then x else y)) ∧ M' = M ∧ sz' = sz) := by
  refine CT.ofF (by decide +kernel) (Nat.le_of_ble_eq_true rfl) ?_
  refine rw_iload_n d_Math_max_0 rfl ?_
  refine rw_iload_n d_Math_max_1 rfl ?_
  refine rw_icmp_lt (tgt := 9) d_Math_max_2 (by decide) (fun q => ?_) (fun q => ?_)
  · refine rw_iload_n d_Math_max_9 rfl ?_
    refine rw_iret d_Math_max_10 rfl ⟨?_, rfl, rfl⟩
    rw [if_neg (fun z => absurd q (Int32.not_lt.mpr z))]
  · refine rw_iload_n d_Math_max_5 rfl ?_
    refine rw_goto (tgt := 10) d_Math_max_6 (by decide) ?_
    refine rw_iret d_Math_max_10 rfl ⟨?_, rfl, rfl⟩
    rw [if_pos (Int32.not_lt.mp q)]
theorem xor_neg (a b : Int32) (hb : 0 ≤ b) : (0 ≤ a ^^^ b) ↔ 0 ≤ a := by
  have e : ∀ x : Int32, (0 ≤ x) ↔ x.toBitVec.msb = false := fun x => by
    rw [Int32.le_iff_toInt_le]
    show (0 : Int) ≤ x.toBitVec.toInt ↔ _
    rw [BitVec.msb_eq_toInt]
    simp
  rw [e, e, Int32.toBitVec_xor, BitVec.msb_xor, (e b).mp hb]
  simp
theorem tmod_np {a b : Int} (h : a ≤ 0) : a.tmod b ≤ 0 := by
  have h1 := Int.neg_tmod a b
  have h2 := Int.tmod_nonneg b (show 0 ≤ -a by omega)
  omega
theorem rem_bd {x : Int32} {n : Nat} (hn : 0 < n) (h : n < 1000000) : -(n : Int) < (x - x / nI n * nI n).toInt ∧ (x - x / nI n * nI n).toInt < n ∧ (0 ≤ x.toInt → 0 ≤ (x - x / nI n * nI n).toInt) ∧ (x.toInt < 0 → (x - x / nI n * nI n).toInt ≤ 0) := by
  have hy : (nI n).toInt = n := nI_toInt (by omega)
  have e : (x - x / nI n * nI n).toInt = x.toInt.tmod n := by
    by_cases h1 : n = 1
    · subst h1
      have : x / nI 1 * nI 1 = x := by
        show x / 1 * 1 = x
        simp
      rw [this]
      simp
    · have h3 : nI n ≠ -1 := fun q => by
        have := congrArg Int32.toInt q
        rw [hy] at this
        have h5 : (-1 : Int32).toInt = -1 := by decide
        omega
      have hd : (x / nI n).toInt = x.toInt.tdiv n := by rw [Int32.toInt_div_of_ne_right _ _ h3, hy]
      have hx1 := x.le_toInt
      have hx2 := x.toInt_lt
      have hm : (n : Int) * x.toInt.tdiv n + x.toInt.tmod n = x.toInt := Int.mul_tdiv_add_tmod x.toInt n
      have hc : x.toInt.tdiv n * n = n * x.toInt.tdiv n := Int.mul_comm _ _
      have hl : -(n : Int) < x.toInt.tmod n := by
        have := Int.lt_tmod_of_pos x.toInt (show (0 : Int) < n by omega)
        omega
      have hu : x.toInt.tmod n < n := Int.tmod_lt_of_pos x.toInt (show (0 : Int) < n by omega)
      rw [Int32.toInt_sub, Int32.toInt_mul, hd, hy, hc]
      by_cases hz : 0 ≤ x.toInt
      · have t0 : 0 ≤ x.toInt.tmod n := Int.tmod_nonneg n hz
        rw [Int.bmod_eq_of_le (n := n * x.toInt.tdiv n) (by omega) (by omega), Int.bmod_eq_of_le (by omega) (by omega)]
        omega
      · have t0 : x.toInt.tmod n ≤ 0 := tmod_np (by omega)
        rw [Int.bmod_eq_of_le (n := n * x.toInt.tdiv n) (by omega) (by omega), Int.bmod_eq_of_le (by omega) (by omega)]
        omega
  rw [e]
  refine ⟨?_, Int.tmod_lt_of_pos x.toInt (show (0 : Int) < n by omega), fun z => Int.tmod_nonneg n z, fun z => tmod_np (by omega)⟩
  have := Int.lt_tmod_of_pos x.toInt (show (0 : Int) < n by omega)
  omega
theorem c_floorMod {x : Int32} {n : Nat} (hn : 0 < n) (h : n < 1000000) : CT l G Y_Math_floorMod ds_Math_floorMod (rm 1) [.int x, .int (nI n)] M sz (fun r M' sz' => (∃ p, p < n ∧ r = some (.int (nI p))) ∧ M' = M ∧ sz' = sz) := by
  refine CT.ofF (by decide +kernel) (Nat.le_of_ble_eq_true rfl) ?_
  obtain ⟨b1, b2, b3, b4⟩ := rem_bd (x := x) hn h
  have hne : ¬ nI n = 0 := nI_ne0 hn (by omega)
  have hn0 : 0 ≤ nI n := nI_pos' (by omega)
  have fin : ∀ z : Int32, 0 ≤ z.toInt → z.toInt < n → ∃ p, p < n ∧ some (Value.int z) = some (.int (nI p)) := fun z h1 h2 => ⟨z.toInt.toNat, by omega, by
    have : z = nI z.toInt.toNat := by
      rw [← Int32.toInt_inj, nI_toInt (by omega)]
      omega
    rw [← this]⟩
  refine rw_iload_n d_Math_floorMod_0 rfl ?_
  refine rw_iload_n d_Math_floorMod_1 rfl ?_
  refine rw_irem d_Math_floorMod_2 hne ?_
  refine rw_topi (fun z hz => ?_)
  rw [← hz] at b1 b2 b3 b4
  refine rw_istore_n d_Math_floorMod_3 (by decide) rfl ?_
  refine rw_iload_n d_Math_floorMod_4 rfl ?_
  refine rw_iload_n d_Math_floorMod_5 rfl ?_
  refine rw_ixor d_Math_floorMod_6 ?_
  refine rw_if_ge (tgt := 18) d_Math_floorMod_7 (by decide) (fun q => ?_) (fun q => ?_)
  · rw [xor_neg _ _ hn0, Int32.le_iff_toInt_le] at q
    have q1 : (0 : Int) ≤ x.toInt := by simpa using q
    refine rw_iload_n d_Math_floorMod_18 rfl ?_
    exact rw_iret d_Math_floorMod_19 rfl ⟨fin z (b3 q1) b2, rfl, rfl⟩
  · rw [xor_neg _ _ hn0, Int32.le_iff_toInt_le] at q
    have q1 : x.toInt < 0 := by simpa using q
    refine rw_iload_n d_Math_floorMod_10 rfl ?_
    refine rw_if_eq (tgt := 18) d_Math_floorMod_11 (by decide) (fun q2 => ?_) (fun q2 => ?_)
    · refine rw_iload_n d_Math_floorMod_18 rfl ?_
      exact rw_iret d_Math_floorMod_19 rfl ⟨fin z (by rw [q2]; decide) b2, rfl, rfl⟩
    · refine rw_iload_n d_Math_floorMod_14 rfl ?_
      refine rw_iload_n d_Math_floorMod_15 rfl ?_
      refine rw_iadd d_Math_floorMod_16 ?_
      have hz0 : z.toInt ≠ 0 := fun e => q2 (Int32.toInt_inj.mp e)
      have := b4 q1
      have hs : (z + nI n).toInt = z.toInt + n := by
        rw [Int32.toInt_add, nI_toInt (by omega), Int.bmod_eq_of_le (by omega) (by omega)]
      exact rw_iret d_Math_floorMod_17 rfl ⟨fin (z + nI n) (by omega) (by omega), rfl, rfl⟩
end JDK
