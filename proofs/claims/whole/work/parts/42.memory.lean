/-! Memory. -/
section MEMORY
variable {l : Launch} {G : mm_G} {sz : Nat} {ca : Nat → Nat} {cm : Nat → pCm} {g : Nat}
abbrev meO (a : Nat) (e k l : Int32) : va_E := .inr (7, [.int e, .int k, .int l, .ref (a + 1)])
/-- a memory at a: epoch ep, done d, end b -/
def MeP (M : mm_M) (ca : Nat → Nat) (cm : Nat → pCm) (g : Nat) (E : pE) (a ep d b : Nat) : Prop := M a = some (meO a (nI ep) (nI (eM E ep)) (gI (eL E ep))) ∧ CpP 2 M ca cm g (a + 1) d b
theorem MeP.kept {M M' : mm_M} {E : pE} {a ep d b : Nat} (h : MeP M ca cm g E a ep d b) (hq : ∀ q, a ≤ q → q < a + 5 → M' q = M q) : MeP M' ca cm g E a ep d b := ⟨(hq _ (by omega) (by omega)).trans h.1, h.2.kept (fun q h1 h2 => hq q (by omega) (by omega))⟩
theorem c_enter {M : mm_M} {a : Nat} {e k z e' k' z' : Int32} (hM : M a = some (meO a e k z)) : CT l G Y_Memory_enter ds_Memory_enter (rm 1) [.ref a, .int e', .int k', .int z'] M sz (fun r M' sz' => r = none ∧ sz' = sz ∧ M' a = some (meO a e' k' z') ∧ ∀ q, q ≠ a → M' q = M q) := by
  refine CT.of (by decide) (Nat.le_of_ble_eq_true rfl) ?_
  refine rw_aload_n d_Memory_enter_0 rfl (by first | exact mm_ref_r _ | exact mm_ref_n | exact mm_ref_o _) ?_
  refine rw_iload_n d_Memory_enter_1 rfl ?_
  refine rw_put d_Memory_enter_2 (fP_Memory_16 _) hM (Nat.le_of_ble_eq_true rfl) (by first | rfl | assumption | decide) (by first | rfl | decide) ?_
  refine rw_aload_n d_Memory_enter_5 rfl (by first | exact mm_ref_r _ | exact mm_ref_n | exact mm_ref_o _) ?_
  refine rw_iload_n d_Memory_enter_6 rfl ?_
  refine rw_put d_Memory_enter_7 (fP_Memory_20 _) (mup_self _ _ _) (Nat.le_of_ble_eq_true rfl) (by first | rfl | assumption | decide) (by first | rfl | decide) ?_
  refine rw_aload_n d_Memory_enter_10 rfl (by first | exact mm_ref_r _ | exact mm_ref_n | exact mm_ref_o _) ?_
  refine rw_iload_n d_Memory_enter_11 rfl ?_
  refine rw_put d_Memory_enter_12 (fP_Memory_23 _) (mup_self _ _ _) (Nat.le_of_ble_eq_true rfl) (by first | rfl | assumption | decide) (by first | rfl | decide) ?_
  refine rw_vret d_Memory_enter_15 rfl ⟨rfl, rfl, ?_, fun q hq => ?_⟩
  · rw [mup_self]
    rfl
  · rw [mup_ne _ _ hq, mup_ne _ _ hq, mup_ne _ _ hq]
theorem c_keeps {M : mm_M} {a n mask : Nat} {e z : Int32} (hM : M a = some (meO a e (nI mask) z)) (hm : mask < 64) (hn : n < 7) : CT l G Y_Memory_keeps ds_Memory_keeps (rm 1) [.ref a, .int (nI n)] M sz (fun r M' sz' => r = some (.int (bI (mask.testBit n))) ∧ M' = M ∧ sz' = sz) := by
  refine CT.of (by decide) (Nat.le_of_ble_eq_true rfl) ?_
  refine rw_aload_n d_Memory_keeps_0 rfl (by first | exact mm_ref_r _ | exact mm_ref_n | exact mm_ref_o _) ?_
  refine rw_get d_Memory_keeps_1 fF_Memory_20 hM rfl ?_
  refine rw_iload_n d_Memory_keeps_4 rfl ?_
  refine rw_iushr d_Memory_keeps_5 rfl ?_
  refine rw_iconst (v := 1) d_Memory_keeps_6 (by decide) ?_
  refine rw_iand d_Memory_keeps_7 ?_
  refine rw_if_eq (tgt := 15) d_Memory_keeps_8 (by decide) (fun q => ?_) (fun q => ?_)
  · rw [bit_val mask hm n hn] at q
    refine rw_iconst (v := 0) d_Memory_keeps_15 (by decide) ?_
    refine rw_zret d_Memory_keeps_16 rfl rfl ⟨?_, rfl, rfl⟩
    rw [show mask.testBit n = false by simpa using q]
    rfl
  · rw [bit_val mask hm n hn, Classical.not_not] at q
    refine rw_iconst (v := 1) d_Memory_keeps_11 (by decide) ?_
    refine rw_goto (tgt := 16) d_Memory_keeps_12 (by decide) ?_
    refine rw_zret d_Memory_keeps_16 rfl rfl ⟨?_, rfl, rfl⟩
    rw [q]
    rfl
theorem c_become {M : mm_M} {E : pE} {a o ep d b d0 b0 : Nat} {e k z : Int32} (hA : CmA M ca cm g) (hS : M a = some (meO a e k z)) (hS2 : CpP 0 M ca cm g (a + 1) d0 b0) (hO : MeP M ca cm g E o ep d b) (hao : o + 5 ≤ a ∨ a + 5 ≤ o) (hca : ∀ i, i < g → ca i ≠ a) :
    CT l G Y_Memory_become ds_Memory_become (rm 2) [.ref a, .ref o] M sz (fun r M' sz' => r = none ∧ sz' = sz ∧ MeP M' ca cm g E a ep d b ∧ Fr M M' a 5) := by
  refine CT.of (by decide) (Nat.le_of_ble_eq_true rfl) ?_
  refine rw_aload_n d_Memory_become_0 rfl (by first | exact mm_ref_r _ | exact mm_ref_n | exact mm_ref_o _) ?_
  refine rw_aload_n d_Memory_become_1 rfl (by first | exact mm_ref_r _ | exact mm_ref_n | exact mm_ref_o _) ?_
  refine rw_get d_Memory_become_2 fF_Memory_16 hO.1 rfl ?_
  refine rw_aload_n d_Memory_become_5 rfl (by first | exact mm_ref_r _ | exact mm_ref_n | exact mm_ref_o _) ?_
  refine rw_get d_Memory_become_6 fF_Memory_20 hO.1 rfl ?_
  refine rw_aload_n d_Memory_become_9 rfl (by first | exact mm_ref_r _ | exact mm_ref_n | exact mm_ref_o _) ?_
  refine rw_get d_Memory_become_10 fF_Memory_23 hO.1 rfl ?_
  refine rw_callV (kc := 0) (ks := 0) (rest := []) d_Memory_become_13 (c_enter hS) mW_Memory_enter mL_Memory_26 mI_Memory_enter mE_Memory_enter ⟨by decide, by decide⟩ hS rfl rfl rfl rfl (Nat.le_of_ble_eq_true rfl) (fun r M1 sz1 hq => ?_)
  obtain ⟨rfl, rfl, q1, q2⟩ := hq
  refine rw_stk (st' := []) rfl ?_
  refine rw_aload_n d_Memory_become_16 rfl (by first | exact mm_ref_r _ | exact mm_ref_n | exact mm_ref_o _) ?_
  refine rw_get d_Memory_become_17 fF_Memory_10 q1 rfl ?_
  refine rw_aload_n d_Memory_become_20 rfl (by first | exact mm_ref_r _ | exact mm_ref_n | exact mm_ref_o _) ?_
  refine rw_get d_Memory_become_21 fF_Memory_10 ((q2 _ (by omega)).trans hO.1) rfl ?_
  refine rw_iconst (v := 1) d_Memory_become_24 (by decide) ?_
  refine rw_callV (kc := 0) (ks := 0) (rest := []) d_Memory_become_25 (c_copyFrom (w := true) (f := 2) (hA.kept (fun i hi => q2 _ (hca i hi))) (hS2.kept (fun q h1 h2 => q2 q (by omega))) (hO.2.kept (fun q h1 h2 => q2 q (by omega))) (by omega)) mW_Copy_copyFrom mL_Memory_30 mI_Copy_copyFrom mE_Copy_copyFrom ⟨by decide, by decide⟩ (hS2.kept (M' := M1) (fun q h1 h2 => q2 q (by omega))).choose_spec.choose_spec.choose_spec.choose_spec.1.1 rfl rfl rfl rfl (Nat.le_of_ble_eq_true rfl) (fun r2 M2 sz2 hq2 => ?_)
  obtain ⟨rfl, rfl, q3, q4⟩ := hq2
  refine rw_stk (st' := []) rfl ?_
  refine rw_vret d_Memory_become_28 rfl ⟨rfl, rfl, ⟨(q4 a (by omega)).trans q1, q3⟩, fun q hq => ?_⟩
  rw [q4 q (by omega), q2 q (by omega)]
end MEMORY
