/-! Copy: pictures and contracts of its leaves. -/
abbrev aI (n : Nat) (f : Nat → Int32) : va_E := .inl (0, n, .inl f)
abbrev aZ (n : Nat) (f : Nat → Int32) : va_E := .inl (1, n, .inl f)
abbrev aR (t n : Nat) (f : Nat → Option Nat) : va_E := .inl (t, n, .inr (.inr (.inr (.inr f))))
/-- the cell of a Copy at a: done d, end b, held h -/
abbrev cpO (a d b : Nat) (h : Int64) : va_E := .inr (1, [.int (nI d), .int (nI b), .long h, .ref (a + 1), .ref (a + 2), .ref (a + 3)])
/-- a Copy and its arrays -/
def CpR (M : mm_M) (a d b : Nat) (h : Int64) (v an : Nat → Int32) (lg : Nat → Option Nat) : Prop := M a = some (cpO a d b h) ∧ M (a + 1) = some (aI 40 v) ∧ M (a + 2) = some (aI 8 an) ∧ M (a + 3) = some (aR 3 8 lg)
section COPY
variable {l : Launch} {G : mm_G} {M : mm_M} {sz : Nat}
theorem c_reaches {a d b o : Nat} {h : Int64} (hM : M a = some (cpO a d b h)) (hb : b < 1000000) (ho : o < 1000000) : CT l G Y_Copy_reachesBackTo ds_Copy_reachesBackTo (rm 1) [.ref a, .int (nI o)] M sz (fun r M' sz' => r = some (.int (bI (decide (b ≤ o + 8)))) ∧ M' = M ∧ sz' = sz) := by
  refine CT.of (by decide) (Nat.le_of_ble_eq_true rfl) ?_
  refine rw_iload_n d_Copy_reachesBackTo_0 rfl ?_
  refine rw_aload_n d_Copy_reachesBackTo_1 rfl (by first | exact mm_ref_r _ | exact mm_ref_n | exact mm_ref_o _) ?_
  refine rw_get d_Copy_reachesBackTo_2 fF_Copy_35 hM rfl ?_
  refine rw_bipush (v := 8) d_Copy_reachesBackTo_5 (by decide) ?_
  refine rw_isub d_Copy_reachesBackTo_7 ?_
  refine rw_icmp_lt (tgt := 15) d_Copy_reachesBackTo_8 (by decide) (fun q => ?_) (fun q => ?_)
  · refine rw_iconst (v := 0) d_Copy_reachesBackTo_15 (by decide) ?_
    refine rw_zret d_Copy_reachesBackTo_16 rfl rfl ⟨?_, rfl, rfl⟩
    rw [nI_sub8, nI_iI, iI_lt (by omega) (by omega) (by omega) (by omega)] at q
    rw [show decide (b ≤ o + 8) = false from decide_eq_false (by omega)]
    rfl
  · refine rw_iconst (v := 1) d_Copy_reachesBackTo_11 (by decide) ?_
    refine rw_goto (tgt := 16) d_Copy_reachesBackTo_12 (by decide) ?_
    refine rw_zret d_Copy_reachesBackTo_16 rfl rfl ⟨?_, rfl, rfl⟩
    rw [nI_sub8, nI_iI, iI_lt (by omega) (by omega) (by omega) (by omega)] at q
    rw [show decide (b ≤ o + 8) = true from decide_eq_true (by omega)]
    rfl
end COPY
