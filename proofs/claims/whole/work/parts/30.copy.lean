/-! Copy: pictures and contracts of its leaves. -/
abbrev aI (n : Nat) (f : Nat → Int32) : va_E := .inl (0, n, .inl f)
abbrev aZ (n : Nat) (f : Nat → Int32) : va_E := .inl (1, n, .inl f)
abbrev aR (t n : Nat) (f : Nat → Option Nat) : va_E := .inl (t, n, .inr (.inr (.inr (.inr f))))
/-- the cell of a Copy at a: done d, end b, held h -/
abbrev cpO (a d b : Nat) (h : Int64) : va_E := .inr (1, [.int (nI d), .int (nI b), .long h, .ref (a + 1), .ref (a + 2), .ref (a + 3)])
/-- a Copy and its arrays -/
def CpR (M : mm_M) (a d b : Nat) (h : Int64) (v an : Nat → Int32) (lg : Nat → Option Nat) : Prop := M a = some (cpO a d b h) ∧ M (a + 1) = some (aI 40 v) ∧ M (a + 2) = some (aI 8 an) ∧ M (a + 3) = some (aR 3 8 lg)
section COPY
variable {l : Launch} {G : mm_G} {M : mm_M} {sz : Nat}
theorem c_reaches {a d b o : Nat} {h : Int64} (hM : M a = some (cpO a d b h)) (hb : b < 1000000) (ho : o < 1000000) : CT l G Y_Copy_reachesBackTo ds_Copy_reachesBackTo (rm 1) [.ref a, .int (nI o)] M sz (fun r M' sz' => r = some (.int (bI (decide (b ≤ o + 8)))) ∧ M' = M ∧ sz' = sz) := by
  refine CT.of (by decide) (Nat.le_of_ble_eq_true rfl) ?_
  refine rw_iload_n d_Copy_reachesBackTo_0 rfl ?_
  refine rw_aload_n d_Copy_reachesBackTo_1 rfl (by first | exact mm_ref_r _ | exact mm_ref_n | exact mm_ref_o _) ?_
  refine rw_get d_Copy_reachesBackTo_2 fF_Copy_35 hM rfl ?_
  refine rw_bipush (v := 8) d_Copy_reachesBackTo_5 (by decide) ?_
  refine rw_isub d_Copy_reachesBackTo_7 ?_
  refine rw_icmp_lt (tgt := 15) d_Copy_reachesBackTo_8 (by decide) (fun q => ?_) (fun q => ?_)
  · refine rw_iconst (v := 0) d_Copy_reachesBackTo_15 (by decide) ?_
    refine rw_zret d_Copy_reachesBackTo_16 rfl rfl ⟨?_, rfl, rfl⟩
    rw [nI_sub8, nI_iI, iI_lt (by omega) (by omega) (by omega) (by omega)] at q
    rw [show decide (b ≤ o + 8) = false from decide_eq_false (by omega)]
    rfl
  · refine rw_iconst (v := 1) d_Copy_reachesBackTo_11 (by decide) ?_
    refine rw_goto (tgt := 16) d_Copy_reachesBackTo_12 (by decide) ?_
    refine rw_zret d_Copy_reachesBackTo_16 rfl rfl ⟨?_, rfl, rfl⟩
    rw [nI_sub8, nI_iI, iI_lt (by omega) (by omega) (by omega) (by omega)] at q
    rw [show decide (b ≤ o + 8) = true from decide_eq_true (by omega)]
    rfl
theorem c_has {a d b k : Nat} {h : Int64} {hs : Nat → Bool} (hM : M a = some (cpO a d b h)) (hk : k < 40) (hh : hOk h hs) : CT l G Y_Copy_has ds_Copy_has (rm 1) [.ref a, .int (nI k)] M sz (fun r M' sz' => r = some (.int (bI (hs k))) ∧ M' = M ∧ sz' = sz) := by
  refine CT.of (by decide) (Nat.le_of_ble_eq_true rfl) ?_
  refine rw_aload_n d_Copy_has_0 rfl (by first | exact mm_ref_r _ | exact mm_ref_n | exact mm_ref_o _) ?_
  refine rw_get d_Copy_has_1 fF_Copy_24 hM rfl ?_
  refine rw_iload_n d_Copy_has_4 rfl ?_
  refine rw_lushr d_Copy_has_5 rfl ?_
  refine rw_lconst (v := 1) d_Copy_has_6 (by decide) ?_
  refine rw_land d_Copy_has_7 ?_
  refine rw_lconst (v := 0) d_Copy_has_8 (by decide) ?_
  refine rw_lcmp d_Copy_has_9 ?_
  refine rw_if_eq (tgt := 17) d_Copy_has_10 (by decide) (fun q => ?_) (fun q => ?_)
  · refine rw_iconst (v := 0) d_Copy_has_17 (by decide) ?_
    refine rw_zret d_Copy_has_18 rfl rfl ⟨?_, rfl, rfl⟩
    rw [lg_cmp_eq, hOk_has hk hh] at q
    rw [q]
    rfl
  · refine rw_iconst (v := 1) d_Copy_has_13 (by decide) ?_
    refine rw_goto (tgt := 18) d_Copy_has_14 (by decide) ?_
    refine rw_zret d_Copy_has_18 rfl rfl ⟨?_, rfl, rfl⟩
    rw [lg_cmp_eq, hOk_has hk hh] at q
    rw [show hs k = true by simpa using q]
    rfl
theorem c_remembers {a d b i : Nat} {h : Int64} (hM : M a = some (cpO a d b h)) (hd : d < 1000000) (hi : i < 1000000) : CT l G Y_Copy_remembers ds_Copy_remembers (rm 1) [.ref a, .int (nI i)] M sz (fun r M' sz' => r = some (.int (bI (decide (i < d) && decide (d ≤ i + 8)))) ∧ M' = M ∧ sz' = sz) := by
  refine CT.of (by decide) (Nat.le_of_ble_eq_true rfl) ?_
  refine rw_iload_n d_Copy_remembers_0 rfl ?_
  refine rw_if_lt_f (tgt := 27) d_Copy_remembers_1 (by decide) (nI_pos (by omega)) ?_
  refine rw_iload_n d_Copy_remembers_4 rfl ?_
  refine rw_aload_n d_Copy_remembers_5 rfl (by first | exact mm_ref_r _ | exact mm_ref_n | exact mm_ref_o _) ?_
  refine rw_get d_Copy_remembers_6 fF_Copy_28 hM rfl ?_
  refine rw_icmp_ge (tgt := 27) d_Copy_remembers_9 (by decide) (fun q => ?_) (fun q => ?_)
  · refine rw_iconst (v := 0) d_Copy_remembers_27 (by decide) ?_
    refine rw_zret d_Copy_remembers_28 rfl rfl ⟨?_, rfl, rfl⟩
    rw [nI_leI (by omega) (by omega)] at q
    rw [show decide (i < d) = false from decide_eq_false (by omega)]
    rfl
  · refine rw_iload_n d_Copy_remembers_12 rfl ?_
    refine rw_aload_n d_Copy_remembers_13 rfl (by first | exact mm_ref_r _ | exact mm_ref_n | exact mm_ref_o _) ?_
    refine rw_get d_Copy_remembers_14 fF_Copy_28 hM rfl ?_
    refine rw_bipush (v := 8) d_Copy_remembers_17 (by decide) ?_
    refine rw_isub d_Copy_remembers_19 ?_
    rw [nI_leI (by omega) (by omega)] at q
    refine rw_icmp_lt (tgt := 27) d_Copy_remembers_20 (by decide) (fun q2 => ?_) (fun q2 => ?_)
    · refine rw_iconst (v := 0) d_Copy_remembers_27 (by decide) ?_
      refine rw_zret d_Copy_remembers_28 rfl rfl ⟨?_, rfl, rfl⟩
      rw [nI_sub8, nI_iI, iI_lt (by omega) (by omega) (by omega) (by omega)] at q2
      rw [show decide (d ≤ i + 8) = false from decide_eq_false (by omega), Bool.and_false]
      rfl
    · refine rw_iconst (v := 1) d_Copy_remembers_23 (by decide) ?_
      refine rw_goto (tgt := 28) d_Copy_remembers_24 (by decide) ?_
      refine rw_zret d_Copy_remembers_28 rfl rfl ⟨?_, rfl, rfl⟩
      rw [nI_sub8, nI_iI, iI_lt (by omega) (by omega) (by omega) (by omega)] at q2
      rw [show decide (d ≤ i + 8) = true from decide_eq_true (by omega), show decide (i < d) = true from decide_eq_true (by omega)]
      rfl
/-- the cell of command i -/
abbrev cmO (i : Nat) (c : pCm) : va_E := .inr (0, [.int (nI i), .int (nI c.1), .int (nI c.2.1), .int c.2.2])
theorem c_append {a d b i w : Nat} {c : pCm} {h : Int64} {v an : Nat → Int32} {lg : Nat → Option Nat} (hC : CpR M a d b h v an lg) (hw : M w = some (cmO i c)) (hd : d < 1000000) (hb : b < 1000000) (hi : i < 1000000) :
    CT l G Y_Copy_append ds_Copy_append (rm 1) [.ref a, .ref w] M sz (fun r M' sz' => r = some (.int (bI (decide (i = b ∧ b < d + 8)))) ∧ sz' = sz ∧ (i = b ∧ b < d + 8 → CpR M' a d (b + 1) h v an (va_up lg (b % 8) (some w))) ∧ (¬ (i = b ∧ b < d + 8) → M' = M) ∧ ∀ q, q < a ∨ a + 4 ≤ q → M' q = M q) := by
  obtain ⟨h0, h1, h2, h3⟩ := hC
  refine CT.of (by decide) (Nat.le_of_ble_eq_true rfl) ?_
  refine rw_aload_n d_Copy_append_0 rfl (by first | exact mm_ref_r _ | exact mm_ref_n | exact mm_ref_o _) ?_
  refine rw_ifnull_f d_Copy_append_1 ?_
  refine rw_aload_n d_Copy_append_4 rfl (by first | exact mm_ref_r _ | exact mm_ref_n | exact mm_ref_o _) ?_
  refine rw_get d_Copy_append_5 fF_Copy_32 hw rfl ?_
  refine rw_aload_n d_Copy_append_8 rfl (by first | exact mm_ref_r _ | exact mm_ref_n | exact mm_ref_o _) ?_
  refine rw_get d_Copy_append_9 fF_Copy_35 h0 rfl ?_
  refine rw_icmp_ne (tgt := 29) d_Copy_append_12 (by decide) (fun q => ?_) (fun q => ?_)
  · refine rw_iconst (v := 0) d_Copy_append_29 (by decide) ?_
    rw [nI_eq (by omega) (by omega)] at q
    refine rw_zret d_Copy_append_30 rfl rfl ⟨?_, rfl, fun z => absurd z.1 q, fun _ => rfl, fun _ _ => rfl⟩
    rw [decide_eq_false (fun z => q z.1)]
    rfl
  · rw [nI_eq (by omega) (by omega)] at q
    refine rw_aload_n d_Copy_append_15 rfl (by first | exact mm_ref_r _ | exact mm_ref_n | exact mm_ref_o _) ?_
    refine rw_get d_Copy_append_16 fF_Copy_35 h0 rfl ?_
    refine rw_aload_n d_Copy_append_19 rfl (by first | exact mm_ref_r _ | exact mm_ref_n | exact mm_ref_o _) ?_
    refine rw_get d_Copy_append_20 fF_Copy_28 h0 rfl ?_
    refine rw_isub d_Copy_append_23 ?_
    refine rw_bipush (v := 8) d_Copy_append_24 (by decide) ?_
    rw [nI_subI]
    refine rw_icmp_lt (tgt := 31) d_Copy_append_26 (by decide) (fun q2 => ?_) (fun q2 => ?_)
    · rw [show (8 : Int32) = iI 8 from rfl, iI_lt (by omega) (by omega) (by omega) (by omega)] at q2
      refine rw_aload_n d_Copy_append_31 rfl (by first | exact mm_ref_r _ | exact mm_ref_n | exact mm_ref_o _) ?_
      refine rw_get d_Copy_append_32 fF_Copy_20 h0 rfl ?_
      refine rw_aload_n d_Copy_append_35 rfl (by first | exact mm_ref_r _ | exact mm_ref_n | exact mm_ref_o _) ?_
      refine rw_get d_Copy_append_36 fF_Copy_35 h0 rfl ?_
      refine rw_bipush (v := 8) d_Copy_append_39 (by decide) ?_
      refine rw_irem d_Copy_append_41 (by decide) ?_
      rw [nI_rem8 (by omega)]
      refine rw_aload_n d_Copy_append_42 rfl (by first | exact mm_ref_r _ | exact mm_ref_n | exact mm_ref_o _) ?_
      refine rw_aast d_Copy_append_43 h3 (by decide) hw rfl rfl (vp_in8 b) ?_
      rw [nI_c8]
      refine rw_aload_n d_Copy_append_44 rfl (by first | exact mm_ref_r _ | exact mm_ref_n | exact mm_ref_o _) ?_
      refine rw_dup d_Copy_append_45 rfl ?_
      refine rw_get d_Copy_append_46 fF_Copy_35 (mup_get (by omega) h0) rfl ?_
      refine rw_iconst (v := 1) d_Copy_append_49 (by decide) ?_
      refine rw_iadd d_Copy_append_50 ?_
      refine rw_put d_Copy_append_51 (fP_Copy_35 _) (mup_get (by omega) h0) (Nat.le_of_ble_eq_true rfl) (by first | rfl | assumption | decide) (by first | rfl | decide) ?_
      refine rw_iconst (v := 1) d_Copy_append_54 (by decide) ?_
      refine rw_zret d_Copy_append_55 rfl rfl ⟨?_, rfl, fun _ => ⟨?_, ?_, ?_, ?_⟩, fun z => absurd ⟨q, by omega⟩ z, fun x hx => ?_⟩
      · rw [decide_eq_true ⟨q, by omega⟩]
        rfl
      · rw [mup_self]
        show some (Sum.inr (1, [_, Value.int (nI b + 1), _, _, _, _])) = _
        rw [nI_1]
      · simp [mup, h1]
      · simp [mup, h2]
      · simp [mup]
      · rw [mup_ne _ _ (by omega), mup_ne _ _ (by omega)]
    · rw [show (8 : Int32) = iI 8 from rfl, iI_lt (by omega) (by omega) (by omega) (by omega)] at q2
      refine rw_iconst (v := 0) d_Copy_append_29 (by decide) ?_
      refine rw_zret d_Copy_append_30 rfl rfl ⟨?_, rfl, fun z => absurd z.2 (by omega), fun _ => rfl, fun _ _ => rfl⟩
      rw [decide_eq_false (fun z => by have := z.2; omega)]
      rfl
end COPY
