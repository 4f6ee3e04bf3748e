/-! Plan; bitCount. -/
section PLAN
variable {l : Launch} {G : mm_G} {M : mm_M} {sz : Nat}
theorem c_bitCount {x : Nat} (hx : x < 64) : CT l G Y_Integer_bitCount ds_Integer_bitCount (rm 1) [.int (nI x)] M sz (fun r M' sz' => r = some (.int (nI (pCount 6 x))) ∧ M' = M ∧ sz' = sz) := by
  refine CT.ofF (by decide +kernel) (Nat.le_of_ble_eq_true rfl) ?_
  refine rw_iload_n d_Integer_bitCount_0 rfl ?_
  refine rw_iload_n d_Integer_bitCount_1 rfl ?_
  refine rw_iconst (v := 1) d_Integer_bitCount_2 (by decide) ?_
  refine rw_iushr d_Integer_bitCount_3 rfl ?_
  refine rw_ldcw d_Integer_bitCount_4 kC_Integer_265 ?_
  refine rw_iand d_Integer_bitCount_7 ?_
  refine rw_isub d_Integer_bitCount_8 ?_
  refine rw_topi (fun y1 e1 => ?_)
  refine rw_istore_n d_Integer_bitCount_9 (by decide) rfl ?_
  refine rw_iload_n d_Integer_bitCount_10 rfl ?_
  refine rw_ldcw d_Integer_bitCount_11 kC_Integer_266 ?_
  refine rw_iand d_Integer_bitCount_14 ?_
  refine rw_iload_n d_Integer_bitCount_15 rfl ?_
  refine rw_iconst (v := 2) d_Integer_bitCount_16 (by decide) ?_
  refine rw_iushr d_Integer_bitCount_17 rfl ?_
  refine rw_ldcw d_Integer_bitCount_18 kC_Integer_266 ?_
  refine rw_iand d_Integer_bitCount_21 ?_
  refine rw_iadd d_Integer_bitCount_22 ?_
  refine rw_topi (fun y2 e2 => ?_)
  refine rw_istore_n d_Integer_bitCount_23 (by decide) rfl ?_
  refine rw_iload_n d_Integer_bitCount_24 rfl ?_
  refine rw_iload_n d_Integer_bitCount_25 rfl ?_
  refine rw_iconst (v := 4) d_Integer_bitCount_26 (by decide) ?_
  refine rw_iushr d_Integer_bitCount_27 rfl ?_
  refine rw_iadd d_Integer_bitCount_28 ?_
  refine rw_ldcw d_Integer_bitCount_29 kC_Integer_267 ?_
  refine rw_iand d_Integer_bitCount_32 ?_
  refine rw_topi (fun y3 e3 => ?_)
  refine rw_istore_n d_Integer_bitCount_33 (by decide) rfl ?_
  refine rw_iload_n d_Integer_bitCount_34 rfl ?_
  refine rw_iload_n d_Integer_bitCount_35 rfl ?_
  refine rw_bipush (v := 8) d_Integer_bitCount_36 (by decide) ?_
  refine rw_iushr d_Integer_bitCount_38 rfl ?_
  refine rw_iadd d_Integer_bitCount_39 ?_
  refine rw_topi (fun y4 e4 => ?_)
  refine rw_istore_n d_Integer_bitCount_40 (by decide) rfl ?_
  refine rw_iload_n d_Integer_bitCount_41 rfl ?_
  refine rw_iload_n d_Integer_bitCount_42 rfl ?_
  refine rw_bipush (v := 16) d_Integer_bitCount_43 (by decide) ?_
  refine rw_iushr d_Integer_bitCount_45 rfl ?_
  refine rw_iadd d_Integer_bitCount_46 ?_
  refine rw_topi (fun y5 e5 => ?_)
  refine rw_istore_n d_Integer_bitCount_47 (by decide) rfl ?_
  refine rw_iload_n d_Integer_bitCount_48 rfl ?_
  refine rw_bipush (v := 63) d_Integer_bitCount_49 (by decide) ?_
  refine rw_iand d_Integer_bitCount_51 ?_
  refine rw_iret d_Integer_bitCount_52 rfl ⟨?_, rfl, rfl⟩
  subst e5 e4 e3 e2 e1
  congr 2
  revert x
  decide +kernel
/-- the cell of a Plan -/
abbrev plO (N c : Nat) : va_E := .inr (2, [.int (nI N), .int (nI c)])
theorem all_val : ∀ N, N < 7 → (1 : Int32) <<< (nI N &&& 31) - 1 = nI (2 ^ N - 1) := by decide +kernel
theorem c_all {p N c : Nat} (hM : M p = some (plO N c)) (hN : N < 7) : CT l G Y_Plan_all ds_Plan_all (rm 1) [.ref p] M sz (fun r M' sz' => r = some (.int (nI (2 ^ N - 1))) ∧ M' = M ∧ sz' = sz) := by
  refine CT.of (by decide) (Nat.le_of_ble_eq_true rfl) ?_
  refine rw_iconst (v := 1) d_Plan_all_0 (by decide) ?_
  refine rw_aload_n d_Plan_all_1 rfl (by first | exact mm_ref_r _ | exact mm_ref_n | exact mm_ref_o _) ?_
  refine rw_get d_Plan_all_2 fF_Plan_9 hM rfl ?_
  refine rw_ishl d_Plan_all_5 ?_
  refine rw_iconst (v := 1) d_Plan_all_6 (by decide) ?_
  refine rw_isub d_Plan_all_7 ?_
  exact rw_iret d_Plan_all_8 rfl ⟨by rw [all_val N hN], rfl, rfl⟩
theorem c_quorum {p N c : Nat} (hM : M p = some (plO N c)) (hN : N < 7) (hc : c ≤ N) : CT l G Y_Plan_quorum ds_Plan_quorum (rm 1) [.ref p] M sz (fun r M' sz' => r = some (.int (nI (N - c + 1))) ∧ M' = M ∧ sz' = sz) := by
  refine CT.of (by decide) (Nat.le_of_ble_eq_true rfl) ?_
  refine rw_aload_n d_Plan_quorum_0 rfl (by first | exact mm_ref_r _ | exact mm_ref_n | exact mm_ref_o _) ?_
  refine rw_get d_Plan_quorum_1 fF_Plan_9 hM rfl ?_
  refine rw_aload_n d_Plan_quorum_4 rfl (by first | exact mm_ref_r _ | exact mm_ref_n | exact mm_ref_o _) ?_
  refine rw_get d_Plan_quorum_5 fF_Plan_15 hM rfl ?_
  refine rw_isub d_Plan_quorum_8 ?_
  refine rw_iconst (v := 1) d_Plan_quorum_9 (by decide) ?_
  refine rw_iadd d_Plan_quorum_10 ?_
  exact rw_iret d_Plan_quorum_11 rfl ⟨by rw [nI_sub hc, nI_1], rfl, rfl⟩
/-- nobody is -1 -/
def gI (b : Nat) : Int32 := if b = 99 then -1 else nI b
theorem bit_val : ∀ s, s < 64 → ∀ n, n < 7 → ((((nI s).toUInt32 >>> ((nI n).toUInt32 &&& Int32.toUInt32 31)).toInt32 &&& 1 = 0) ↔ ¬ s.testBit n = true) := by decide +kernel
theorem pGr_lt : ∀ N set, N ≤ 99 → pGr N set = 99 ∨ pGr N set < N := by
  intro N
  induction N with
  | zero => intro set _; exact Or.inl rfl
  | succ n ih =>
    intro set hn
    unfold pGr
    split
    · exact Or.inr (by omega)
    · exact (ih set (by omega)).imp id (fun z => by omega)
def GrQ (M : mm_M) (sz N set : Nat) : Option Value → mm_M → Nat → Prop := fun r M' sz' => r = some (.int (gI (pGr N set))) ∧ M' = M ∧ sz' = sz
theorem greatest_loop {p N c set : Nat} (hM : M p = some (plO N c)) (hN : N < 7) (hs : set < 64) : ∀ (m n : Nat), m + n = N → RW l G Y_Plan_greatest (rm 1) (mm_Z G (rm 1) (GrQ M sz N set)) 0 0 4 [(0, .ref p), (1, .int (nI set)), (2, .int (gI (pGr n set))), (3, .int (nI n))] [] M sz := by
  intro m
  induction m with
  | zero =>
    intro n hn
    have : n = N := by omega
    subst this
    refine rw_iload_n d_Plan_greatest_4 rfl ?_
    refine rw_aload_n d_Plan_greatest_5 rfl (by first | exact mm_ref_r _ | exact mm_ref_n | exact mm_ref_o _) ?_
    refine rw_get d_Plan_greatest_6 fF_Plan_9 hM rfl ?_
    refine rw_icmp_ge_t (tgt := 50) d_Plan_greatest_9 (by decide) (nI_le (by omega) (by omega)) ?_
    refine rw_iload_n d_Plan_greatest_50 rfl ?_
    exact rw_iret d_Plan_greatest_51 rfl ⟨rfl, rfl, rfl⟩
  | succ m ih =>
    intro n hn
    have tail : ∀ b, b = pGr (n + 1) set → RW l G Y_Plan_greatest (rm 1) (mm_Z G (rm 1) (GrQ M sz N set)) 0 0 44 [(0, .ref p), (1, .int (nI set)), (2, .int (gI b)), (3, .int (nI n))] [] M sz := by
      intro b hb
      subst hb
      refine rw_iinc d_Plan_greatest_44 (by decide) rfl rfl rfl ?_
      refine rw_lv (lv' := [(0, .ref p), (1, .int (nI set)), (2, .int (gI (pGr (n + 1) set))), (3, .int (nI (n + 1)))]) (by rw [← nI_1]; intro q hq; simp at hq; rcases hq with rfl | rfl | rfl | rfl <;> rfl) ?_
      refine rw_goto (tgt := 4) d_Plan_greatest_47 (by decide) ?_
      exact ih (n + 1) (by omega)
    have hg := pGr_lt n set (by omega)
    refine rw_iload_n d_Plan_greatest_4 rfl ?_
    refine rw_aload_n d_Plan_greatest_5 rfl (by first | exact mm_ref_r _ | exact mm_ref_n | exact mm_ref_o _) ?_
    refine rw_get d_Plan_greatest_6 fF_Plan_9 hM rfl ?_
    refine rw_icmp_ge_f (tgt := 50) d_Plan_greatest_9 (by decide) (nI_ge (by omega) (by omega)) ?_
    refine rw_iload_n d_Plan_greatest_12 rfl ?_
    refine rw_iload_n d_Plan_greatest_13 rfl ?_
    refine rw_iushr d_Plan_greatest_14 rfl ?_
    refine rw_iconst (v := 1) d_Plan_greatest_15 (by decide) ?_
    refine rw_iand d_Plan_greatest_16 ?_
    refine rw_if_eq (tgt := 44) d_Plan_greatest_17 (by decide) (fun q => ?_) (fun q => ?_)
    · rw [bit_val set hs n (by omega)] at q
      exact tail _ (by rw [pGr, if_neg (fun z => q z.1)])
    · rw [bit_val set hs n (by omega), Classical.not_not] at q
      have take : pGr (n + 1) set = n → RW l G Y_Plan_greatest (rm 1) (mm_Z G (rm 1) (GrQ M sz N set)) 0 0 42 [(0, .ref p), (1, .int (nI set)), (2, .int (gI (pGr n set))), (3, .int (nI n))] [] M sz := by
        intro e
        refine rw_iload_n d_Plan_greatest_42 rfl ?_
        refine rw_istore_n d_Plan_greatest_43 (by decide) rfl ?_
        refine rw_lv (lv' := [(0, .ref p), (1, .int (nI set)), (2, .int (gI n)), (3, .int (nI n))]) (by rw [gI, if_neg (by omega)]; intro q hq; simp at hq; rcases hq with rfl | rfl | rfl | rfl <;> rfl) ?_
        exact tail n e.symm
      refine rw_iload_n d_Plan_greatest_20 rfl ?_
      refine rw_iconst (v := (-1)) d_Plan_greatest_21 (by decide) ?_
      rcases hg with hg | hg
      · have e9 : gI (pGr n set) = -1 := by rw [hg]; rfl
        rw [e9]
        refine rw_icmp_eq_t (tgt := 42) d_Plan_greatest_22 (by decide) (rfl) ?_
        have := take (by rw [pGr, if_pos ⟨q, Or.inl hg⟩])
        rw [e9] at this
        exact this
      · have e9 : gI (pGr n set) = nI (pGr n set) := by rw [gI, if_neg (by omega)]
        rw [e9]
        rw [e9] at take
        refine rw_icmp_eq_f (tgt := 42) d_Plan_greatest_22 (by decide) (fun z => by have := congrArg Int32.toInt z; rw [nI_toInt (by omega)] at this; have h5 : (-1 : Int32).toInt = -1 := (by decide); omega) ?_
        refine rw_iload_n d_Plan_greatest_25 rfl ?_
        refine rw_bipush (v := 37) d_Plan_greatest_26 (by decide) ?_
        refine rw_imul d_Plan_greatest_28 ?_
        rw [show (37 : Int32) = nI 37 from rfl, nI_mul]
        refine rw_bipush (v := 11) d_Plan_greatest_29 (by decide) ?_
        refine rw_irem d_Plan_greatest_31 (by decide) ?_
        rw [show (11 : Int32) = nI 11 from rfl, nI_rem (by omega) (by omega) (by omega)]
        refine rw_iload_n d_Plan_greatest_32 rfl ?_
        refine rw_bipush (v := 37) d_Plan_greatest_33 (by decide) ?_
        refine rw_imul d_Plan_greatest_35 ?_
        rw [show (37 : Int32) = nI 37 from rfl, nI_mul]
        refine rw_bipush (v := 11) d_Plan_greatest_36 (by decide) ?_
        refine rw_irem d_Plan_greatest_38 (by decide) ?_
        rw [show (11 : Int32) = nI 11 from rfl, nI_rem (by omega) (by omega) (by omega)]
        refine rw_icmp_le (tgt := 44) d_Plan_greatest_39 (by decide) (fun q2 => ?_) (fun q2 => ?_)
        · rw [nI_leI (by omega) (by omega)] at q2
          have := tail (pGr n set) (by rw [pGr, if_neg (fun z => by rcases z.2 with y | y <;> omega)])
          rw [e9] at this
          exact this
        · rw [nI_leI (by omega) (by omega)] at q2
          exact take (by rw [pGr, if_pos ⟨q, Or.inr (by omega)⟩])
theorem c_greatest {p N c set : Nat} (hM : M p = some (plO N c)) (hN : N < 7) (hs : set < 64) : CT l G Y_Plan_greatest ds_Plan_greatest (rm 1) [.ref p, .int (nI set)] M sz (GrQ M sz N set) := by
  refine CT.of (by decide) (Nat.le_of_ble_eq_true rfl) ?_
  refine rw_iconst (v := (-1)) d_Plan_greatest_0 (by decide) ?_
  refine rw_istore_n d_Plan_greatest_1 (by decide) rfl ?_
  refine rw_iconst (v := 0) d_Plan_greatest_2 (by decide) ?_
  refine rw_istore_n d_Plan_greatest_3 (by decide) rfl ?_
  refine rw_lv (lv' := [(0, .ref p), (1, .int (nI set)), (2, .int (gI (pGr 0 set))), (3, .int (nI 0))]) (by intro q hq; simp at hq; rcases hq with rfl | rfl | rfl | rfl <;> rfl) ?_
  exact greatest_loop hM hN hs N 0 rfl
end PLAN
