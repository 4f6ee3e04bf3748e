/-! Node.hearMap. -/
section NODE2
variable {l : Launch} {G : mm_G} {sz : Nat} {ca : Nat → Nat} {cm : Nat → pCm} {g : Nat} {E : pE} {pl p a n : Nat} {x : pN} {post : List pMsg}
theorem c_hearMap {M : mm_M} {q e : Nat} {kv : Value} {f t en dn nu an : Int32} {cv : Value} (hN : NdP M ca cm g E pl p a n x) (hS : SyP G M ca cm g E pl p post) (hpa : p + 328 ≤ a) (hq1 : p ≤ q) (hq2 : q < p + 328) (he : e ≤ 1000000) (hm : M q = some (msO q kv f t (nI e) (nI (E.2.2 e)) en dn nu an cv)) :
    CT l G Y_Node_hearMap ds_Node_hearMap (rm 4) [.ref a, .ref q] M sz (NdQ G M sz ca cm g E pl p a n (pHearMap e x) post) := by
  obtain ⟨h0, h1, h2, h3, h4⟩ := id hN
  have b4 := h4.1 4
  have hN1 : NdP (mup M a (.inr (9, [.int (nI n), .ref pl, .ref p, .ref (a + 1), .ref (a + 6), .ref (a + 11), .int (nI (x 0)), .int (nI (x 1)), .int 1, .int (nI (x 3))]))) ca cm g E pl p a n (pu x 2 1) := hN.flag (by omega) (by omega) rfl
  have hF1 : Fr M (mup M a (.inr (9, [.int (nI n), .ref pl, .ref p, .ref (a + 1), .ref (a + 6), .ref (a + 11), .int (nI (x 0)), .int (nI (x 1)), .int 1, .int (nI (x 3))]))) a 15 := Fr.mup Fr.rf (by omega) (by omega)
  have hS1 := hS.node hN hpa hF1
  obtain ⟨-, -, hpl1, hlt, hN7, -, hC3, -, hM64, hE64⟩ := id hS1
  obtain ⟨k0, k1, k2, k3, k4⟩ := id hN1
  have hm1 := (hF1 q (by omega)).trans hm
  refine CT.of (by decide) (Nat.le_of_ble_eq_true rfl) ?_
  refine rw_aload_n d_Node_hearMap_0 rfl (by first | exact mm_ref_r _ | exact mm_ref_n | exact mm_ref_o _) ?_
  refine rw_iconst (v := 1) d_Node_hearMap_1 (by decide) ?_
  refine rw_put d_Node_hearMap_2 (fP_Node_79 _) h0 (Nat.le_of_ble_eq_true rfl) (by first | rfl | assumption | decide) (by first | rfl | decide) ?_
  refine rw_aload_n d_Node_hearMap_5 rfl (by first | exact mm_ref_r _ | exact mm_ref_n | exact mm_ref_o _) ?_
  refine rw_get d_Node_hearMap_6 fF_Node_100 hm1 rfl ?_
  refine rw_aload_n d_Node_hearMap_9 rfl (by first | exact mm_ref_r _ | exact mm_ref_n | exact mm_ref_o _) ?_
  refine rw_get d_Node_hearMap_10 fF_Node_12 (mup_self _ _ _) rfl ?_
  refine rw_get d_Node_hearMap_13 fF_Node_103 k1.1 rfl ?_
  rw [show pu x 2 1 4 = x 4 from rfl]
  by_cases c : x 4 < e
  · refine rw_icmp_le_f (tgt := 68) d_Node_hearMap_16 (by decide) (nI_ge c (by omega)) ?_
    refine rw_aload_n d_Node_hearMap_19 rfl (by first | exact mm_ref_r _ | exact mm_ref_n | exact mm_ref_o _) ?_
    refine rw_get d_Node_hearMap_20 fF_Node_29 (mup_self _ _ _) rfl ?_
    refine rw_aload_n d_Node_hearMap_23 rfl (by first | exact mm_ref_r _ | exact mm_ref_n | exact mm_ref_o _) ?_
    refine rw_get d_Node_hearMap_24 fF_Node_160 hm1 rfl ?_
    refine rw_callV (kc := 0) (ks := 0) (rest := []) d_Node_hearMap_27 (c_keepers hpl1 hN7 hC3 (hE64 e)) mW_Plan_keepers mL_Node_55 mI_Plan_keepers mE_Plan_keepers ⟨by decide, by decide⟩ hpl1 rfl rfl rfl rfl (Nat.le_of_ble_eq_true rfl) (fun r M1 sz1 hq => ?_)
    obtain ⟨rfl, rfl, rfl⟩ := hq
    refine rw_stk (st' := [.int (nI (eM E e))]) rfl ?_
    refine rw_istore_n d_Node_hearMap_30 (by decide) rfl ?_
    refine rw_aload_n d_Node_hearMap_31 rfl (by first | exact mm_ref_r _ | exact mm_ref_n | exact mm_ref_o _) ?_
    refine rw_get d_Node_hearMap_32 fF_Node_12 (mup_self _ _ _) rfl ?_
    refine rw_aload_n d_Node_hearMap_35 rfl (by first | exact mm_ref_r _ | exact mm_ref_n | exact mm_ref_o _) ?_
    refine rw_get d_Node_hearMap_36 fF_Node_100 hm1 rfl ?_
    refine rw_iload_n d_Node_hearMap_39 rfl ?_
    refine rw_aload_n d_Node_hearMap_40 rfl (by first | exact mm_ref_r _ | exact mm_ref_n | exact mm_ref_o _) ?_
    refine rw_get d_Node_hearMap_41 fF_Node_29 (mup_self _ _ _) rfl ?_
    refine rw_iload_n d_Node_hearMap_44 rfl ?_
    refine rw_callV (kc := 0) (ks := 0) (rest := [.int (nI (eM E e)), .int (nI e), .ref (a + 1)]) d_Node_hearMap_45 (c_greatest hpl1 hN7 (hM64 e)) mW_Plan_greatest mL_Node_59 mI_Plan_greatest mE_Plan_greatest ⟨by decide, by decide⟩ hpl1 rfl rfl rfl rfl (Nat.le_of_ble_eq_true rfl) (fun r M1 sz1 hq => ?_)
    obtain ⟨rfl, rfl, rfl⟩ := hq
    refine rw_stk (st' := [.int (gI (eL E e)), .int (nI (eM E e)), .int (nI e), .ref (a + 1)]) rfl ?_
    refine rw_callV (kc := 0) (ks := 0) (rest := []) d_Node_hearMap_48 (c_enter k1.1) mW_Memory_enter mL_Node_62 mI_Memory_enter mE_Memory_enter ⟨by decide, by decide⟩ k1.1 rfl rfl rfl rfl (Nat.le_of_ble_eq_true rfl) (fun r2 M2 sz2 hq2 => ?_)
    obtain ⟨rfl, rfl, q1, q2⟩ := hq2
    refine rw_stk (st' := []) rfl ?_
    have j0 := (q2 a (by omega)).trans k0
    have j3 := k3.kept (M' := M2) (fun y y1 y2 => q2 y (by omega))
    refine rw_aload_n d_Node_hearMap_51 rfl (by first | exact mm_ref_r _ | exact mm_ref_n | exact mm_ref_o _) ?_
    refine rw_get d_Node_hearMap_52 fF_Node_47 j0 rfl ?_
    refine rw_callV (kc := 0) (ks := 0) (rest := []) d_Node_hearMap_55 (c_clear hN7 j3) mW_Reports_clear mL_Node_73 mI_Reports_clear mE_Reports_clear ⟨by decide, by decide⟩ (j3.choose_spec.choose_spec.choose_spec.1.1) rfl rfl rfl rfl (Nat.le_of_ble_eq_true rfl) (fun r3 M3 sz3 hq3 => ?_)
    obtain ⟨rfl, rfl, q3, q4⟩ := hq3
    refine rw_stk (st' := []) rfl ?_
    have i0 := (q4 a (by omega)).trans j0
    refine rw_aload_n d_Node_hearMap_58 rfl (by first | exact mm_ref_r _ | exact mm_ref_n | exact mm_ref_o _) ?_
    refine rw_iconst (v := 1) d_Node_hearMap_59 (by decide) ?_
    refine rw_put d_Node_hearMap_60 (fP_Node_76 _) i0 (Nat.le_of_ble_eq_true rfl) (by first | rfl | assumption | decide) (by first | rfl | decide) ?_
    refine rw_aload_n d_Node_hearMap_63 rfl (by first | exact mm_ref_r _ | exact mm_ref_n | exact mm_ref_o _) ?_
    refine rw_iconst (v := 1) d_Node_hearMap_64 (by decide) ?_
    refine rw_put d_Node_hearMap_65 (fP_Node_82 _) (mup_self _ _ _) (Nat.le_of_ble_eq_true rfl) (by first | rfl | assumption | decide) (by first | rfl | decide) ?_
    have hF2 : Fr M M3 a 15 := hF1.trans (fun y hy => (q4 y (by omega)).trans (q2 y (by omega)))
    have hF : ∀ e1 e2, Fr M (mup (mup M3 a e1) a e2) a 15 := fun e1 e2 => Fr.mup (Fr.mup hF2 (by omega) (by omega)) (by omega) (by omega)
    have ee : pHearMap e x = pClear (fun j => if j = 2 ∨ j = 1 ∨ j = 3 then 1 else if j = 4 then e else x j) := by rw [pHearMap, if_pos c]
    have e5 : ∀ j, 5 ≤ j → j < 10 → pHearMap e x j = x j := fun j h1 h2 => by
      rw [ee]
      simp only [pClear]
      rw [if_neg (by omega), if_neg (by omega), if_neg (by omega)]
    have ehi : ∀ j, 10 ≤ j → pHearMap e x j = pClear (pu x 2 1) j := fun j h1 => by
      rw [ee]
      simp only [pClear, pu]
      by_cases z : (20 ≤ j ∧ j < 30) ∨ j = 10 ∨ j = 11
      · rw [if_pos z, if_pos z]
      · rw [if_neg z, if_neg z, if_neg (by omega), if_neg (by omega), if_neg (by omega)]
    refine rw_vret d_Node_hearMap_68 rfl ⟨rfl, rfl, ⟨?_, ⟨?_, ?_⟩, ?_, ?_, ?_⟩, hS.node hN hpa (hF _ _), Fr2.of1 (hF _ _)⟩
    · rw [mup_self, ee]
      rfl
    · rw [mup_ne _ _ (by omega), mup_ne _ _ (by omega), q4 _ (by omega), show pHearMap e x 4 = e by rw [ee]; rfl]
      exact q1
    · rw [e5 5 (by omega) (by omega), e5 6 (by omega) (by omega)]
      exact k1.2.kept (fun y y1 y2 => by rw [mup_ne _ _ (by omega), mup_ne _ _ (by omega), q4 y (by omega), q2 y (by omega)])
    · rw [e5 7 (by omega) (by omega), e5 8 (by omega) (by omega), e5 9 (by omega) (by omega)]
      exact k2.kept (fun y y1 y2 => by rw [mup_ne _ _ (by omega), mup_ne _ _ (by omega), q4 y (by omega), q2 y (by omega)])
    · exact (q3.kept (fun y y1 y2 => by rw [mup_ne _ _ (by omega), mup_ne _ _ (by omega)])).same (ehi 10 (by omega)) (ehi 11 (by omega)) (fun m hm => ⟨ehi _ (by omega), ehi _ (by omega), ehi _ (by omega)⟩)
    · rw [ee]
      refine pBd.clear ⟨fun j => ?_, fun j hj => ?_⟩
      · simp only
        (repeat' split) <;> first | omega | exact h4.1 _
      · simp only
        (repeat' split) <;> first | omega | exact h4.2 j hj
  · refine rw_icmp_le_t (tgt := 68) d_Node_hearMap_16 (by decide) (nI_le (by omega) (by omega)) ?_
    have ee : pHearMap e x = pu x 2 1 := by rw [pHearMap, if_neg c]
    rw [ee]
    exact rw_vret d_Node_hearMap_68 rfl ⟨rfl, rfl, hN1, hS1, Fr2.of1 hF1⟩
end NODE2
