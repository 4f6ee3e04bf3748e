/-! Node: fail, hearMap, hearCommand; plain sends. -/
theorem SeQ.plain {G : mm_G} {M M' : mm_M} {sz sz' : Nat} {ca : Nat → Nat} {cm : Nat → pCm} {g : Nat} {E : pE} {p : Nat} {post : List pMsg} {k f t e : Nat} {r : Option Value} (h : SeQ G M sz ca cm g E p post k f t e r M' sz') (hk : k = 1 ∨ k = 4 ∨ k = 6 ∨ k = 9) : PsP G M' ca cm g E p (pSend post [(k, f, t, e, 0, 0)]) := by
  obtain ⟨-, -, j, hj, -, ⟨s, en, dn, nu, a2, cv, d, b, w1, w2, w3⟩, q2⟩ := h
  refine q2 M' (k, f, t, e, 0, 0) Fr.rf ⟨s, en, dn, nu, a2, cv, d, b, w1, w2, w3, fun z => ?_, fun z => ?_, fun z => ?_, fun z => ?_, fun z => ?_, fun z => ?_⟩ <;> (simp only at z; omega)
section NODE2
variable {l : Launch} {G : mm_G} {sz : Nat} {ca : Nat → Nat} {cm : Nat → pCm} {g : Nat} {E : pE} {pl p a n : Nat} {x : pN} {post : List pMsg}
theorem c_fail {M : mm_M} {kept : Bool} (hN : NdP M ca cm g E pl p a n x) (hS : SyP G M ca cm g E pl p post) (hpa : p + 328 ≤ a) : CT l G Y_Node_fail ds_Node_fail (rm 4) [.ref a, .int (bI kept)] M sz (NdQ G M sz ca cm g E pl p a n (pFail kept x) post) := by
  obtain ⟨h0, h1, h2, h3, h4⟩ := id hN
  have hN1 : NdP (mup M a (.inr (9, [.int (nI n), .ref pl, .ref p, .ref (a + 1), .ref (a + 6), .ref (a + 11), .int 0, .int (nI (x 1)), .int (nI (x 2)), .int (nI (x 3))]))) ca cm g E pl p a n (pu x 0 0) := hN.flag (by omega) (by omega) rfl
  have hF1 : Fr M (mup M a (.inr (9, [.int (nI n), .ref pl, .ref p, .ref (a + 1), .ref (a + 6), .ref (a + 11), .int 0, .int (nI (x 1)), .int (nI (x 2)), .int (nI (x 3))]))) a 15 := Fr.mup Fr.rf (by omega) (by omega)
  have hS1 := hS.node hN hpa hF1
  refine CT.of (by decide) (Nat.le_of_ble_eq_true rfl) ?_
  refine rw_aload_n d_Node_fail_0 rfl (by first | exact mm_ref_r _ | exact mm_ref_n | exact mm_ref_o _) ?_
  refine rw_iconst (v := 0) d_Node_fail_1 (by decide) ?_
  refine rw_put d_Node_fail_2 (fP_Node_21 _) h0 (Nat.le_of_ble_eq_true rfl) (by first | rfl | assumption | decide) (by first | rfl | decide) ?_
  refine rw_iload_n d_Node_fail_5 rfl ?_
  cases kept with
  | true =>
    refine rw_if_eq_f (tgt := 14) d_Node_fail_6 (by decide) (by decide) ?_
    refine rw_aload_n d_Node_fail_9 rfl (by first | exact mm_ref_r _ | exact mm_ref_n | exact mm_ref_o _) ?_
    refine rw_callV (kc := 0) (ks := 0) (rest := []) d_Node_fail_10 (c_flush hN1 hS1 hpa) mW_Node_flush mL_Node_70 mI_Node_flush mE_Node_flush ⟨by decide, by decide⟩ (mup_self _ _ _) rfl rfl rfl rfl (Nat.le_of_ble_eq_true rfl) (fun r M1 sz1 hq => ?_)
    obtain ⟨rfl, rfl, q1, q2, q3⟩ := hq
    refine rw_stk (st' := []) rfl ?_
    exact rw_vret d_Node_fail_13 rfl ⟨rfl, rfl, q1, q2, (Fr2.of1 hF1).trans q3⟩
  | false =>
    obtain ⟨k0, k1, k2, k3, k4⟩ := id hN1
    have hne : ∀ i, i < g → ca i ≠ a + 1 := fun i hi => by
      have := k1.apart hS1.2.1 hi
      omega
    refine rw_if_eq_t (tgt := 14) d_Node_fail_6 (by decide) (rfl) ?_
    refine rw_aload_n d_Node_fail_14 rfl (by first | exact mm_ref_r _ | exact mm_ref_n | exact mm_ref_o _) ?_
    refine rw_get d_Node_fail_15 fF_Node_12 (mup_self _ _ _) rfl ?_
    refine rw_aload_n d_Node_fail_18 rfl (by first | exact mm_ref_r _ | exact mm_ref_n | exact mm_ref_o _) ?_
    refine rw_get d_Node_fail_19 fF_Node_18 (mup_self _ _ _) rfl ?_
    refine rw_callV (kc := 0) (ks := 0) (rest := []) d_Node_fail_22 (c_become hS1.2.1 k1.1 (k1.2.le (by omega)) k2 (by omega) hne) mW_Memory_become mL_Node_66 mI_Memory_become mE_Memory_become ⟨by decide, by decide⟩ k1.1 rfl rfl rfl rfl (Nat.le_of_ble_eq_true rfl) (fun r M1 sz1 hq => ?_)
    obtain ⟨rfl, rfl, q1, q2⟩ := hq
    refine rw_stk (st' := []) rfl ?_
    have j0 := (q2 a (by omega)).trans k0
    have j3 := k3.kept (M' := M1) (fun y y1 y2 => q2 y (by omega))
    refine rw_aload_n d_Node_fail_25 rfl (by first | exact mm_ref_r _ | exact mm_ref_n | exact mm_ref_o _) ?_
    refine rw_get d_Node_fail_26 fF_Node_47 j0 rfl ?_
    refine rw_callV (kc := 0) (ks := 0) (rest := []) d_Node_fail_29 (c_clear hS.2.2.2.2.1 j3) mW_Reports_clear mL_Node_73 mI_Reports_clear mE_Reports_clear ⟨by decide, by decide⟩ (j3.choose_spec.choose_spec.choose_spec.1.1) rfl rfl rfl rfl (Nat.le_of_ble_eq_true rfl) (fun r2 M2 sz2 hq2 => ?_)
    obtain ⟨rfl, rfl, q3, q4⟩ := hq2
    refine rw_stk (st' := []) rfl ?_
    have i0 := (q4 a (by omega)).trans j0
    refine rw_aload_n d_Node_fail_32 rfl (by first | exact mm_ref_r _ | exact mm_ref_n | exact mm_ref_o _) ?_
    refine rw_iconst (v := 0) d_Node_fail_33 (by decide) ?_
    refine rw_put d_Node_fail_34 (fP_Node_76 _) i0 (Nat.le_of_ble_eq_true rfl) (by first | rfl | assumption | decide) (by first | rfl | decide) ?_
    refine rw_aload_n d_Node_fail_37 rfl (by first | exact mm_ref_r _ | exact mm_ref_n | exact mm_ref_o _) ?_
    refine rw_iconst (v := 0) d_Node_fail_38 (by decide) ?_
    refine rw_put d_Node_fail_39 (fP_Node_79 _) (mup_self _ _ _) (Nat.le_of_ble_eq_true rfl) (by first | rfl | assumption | decide) (by first | rfl | decide) ?_
    refine rw_aload_n d_Node_fail_42 rfl (by first | exact mm_ref_r _ | exact mm_ref_n | exact mm_ref_o _) ?_
    refine rw_iconst (v := 0) d_Node_fail_43 (by decide) ?_
    refine rw_put d_Node_fail_44 (fP_Node_82 _) (mup_self _ _ _) (Nat.le_of_ble_eq_true rfl) (by first | rfl | assumption | decide) (by first | rfl | decide) ?_
    have hF : ∀ e1 e2 e3, Fr M (mup (mup (mup M2 a e1) a e2) a e3) a 15 := fun e1 e2 e3 => Fr.mup (Fr.mup (Fr.mup (hF1.trans ((q2.wider (by omega) (by omega)).trans (q4.wider (by omega) (by omega)))) (by omega) (by omega)) (by omega) (by omega)) (by omega) (by omega)
    have ef : pFail false x = pClear (fun j => if j = 0 then 0 else if j = 4 then x 7 else if j = 5 then x 8 else if j = 6 then x 9 else if j = 1 ∨ j = 2 ∨ j = 3 then 0 else x j) := rfl
    have e4 : ∀ j, 4 ≤ j → j < 10 → pFail false x j = (if j = 4 then x 7 else if j = 5 then x 8 else if j = 6 then x 9 else x j) := fun j h1 h2 => by
      rw [ef]
      simp only [pClear]
      rw [if_neg (by omega), if_neg (by omega)]
      by_cases z : j = 4
      · rw [if_pos z, if_pos z]
      · rw [if_neg z, if_neg z]
        by_cases z2 : j = 5
        · rw [if_pos z2, if_pos z2]
        · rw [if_neg z2, if_neg z2]
          by_cases z3 : j = 6
          · rw [if_pos z3, if_pos z3]
          · rw [if_neg z3, if_neg z3, if_neg (by omega)]
    have ehi : ∀ j, 10 ≤ j → pFail false x j = pClear (pu x 0 0) j := fun j h1 => by
      rw [ef]
      simp only [pClear, pu]
      by_cases z : (20 ≤ j ∧ j < 30) ∨ j = 10 ∨ j = 11
      · rw [if_pos z, if_pos z]
      · rw [if_neg z, if_neg z, if_neg (by omega), if_neg (by omega), if_neg (by omega), if_neg (by omega), if_neg (by omega), if_neg (by omega)]
    refine rw_vret d_Node_fail_47 rfl ⟨rfl, rfl, ⟨?_, ?_, ?_, ?_, ?_⟩, hS.node hN hpa (hF _ _ _), Fr2.of1 (hF _ _ _)⟩
    · rw [mup_self]
      rfl
    · rw [e4 4 (by omega) (by omega), e4 5 (by omega) (by omega), e4 6 (by omega) (by omega)]
      exact q1.kept (fun y y1 y2 => by rw [mup_ne _ _ (by omega), mup_ne _ _ (by omega), mup_ne _ _ (by omega), q4 y (by omega)])
    · rw [e4 7 (by omega) (by omega), e4 8 (by omega) (by omega), e4 9 (by omega) (by omega)]
      exact k2.kept (fun y y1 y2 => by rw [mup_ne _ _ (by omega), mup_ne _ _ (by omega), mup_ne _ _ (by omega), q4 y (by omega), q2 y (by omega)])
    · exact (q3.kept (fun y y1 y2 => by rw [mup_ne _ _ (by omega), mup_ne _ _ (by omega), mup_ne _ _ (by omega)])).same (ehi 10 (by omega)) (ehi 11 (by omega)) (fun m hm => ⟨ehi _ (by omega), ehi _ (by omega), ehi _ (by omega)⟩)
    · rw [ef]
      refine pBd.clear ⟨fun j => ?_, fun j hj => ?_⟩
      · simp only
        (repeat' split) <;> first | omega | exact h4.1 _
      · simp only
        (repeat' split) <;> first | omega | exact h4.2 j hj
end NODE2
