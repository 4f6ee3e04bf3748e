/-! Node: prepare, sendCopy, guide. -/
section LEAD1
variable {l : Launch} {G : mm_G} {sz : Nat} {ca : Nat → Nat} {cm : Nat → pCm} {g : Nat} {E : pE} {pl p a n : Nat} {x : pN} {post : List pMsg}
theorem c_prepare {M : mm_M} (hN : NdP M ca cm g E pl p a n x) (hS : SyP G M ca cm g E pl p post) (hpa : p + 328 ≤ a) (hn : n < eN E) (hr : x 10 ≠ 1) : CT l G Y_Node_prepare ds_Node_prepare (rm 2) [.ref a] M sz (NdQ G M sz ca cm g E pl p a n (pPrep E n x).1 (pSend post (pPrep E n x).2)) := by
  obtain ⟨h0, h1, h2, h3, h4⟩ := id hN
  obtain ⟨hP, hA, hpl, hlt, hN7, hCN, -, hg, -, -⟩ := id hS
  obtain ⟨hd, en, dn, hrr, h3b⟩ := id h3
  obtain ⟨hh, hc0⟩ := h1.2.obj
  have hsz := pSize_le x (eN E)
  have egn : nI n = gI n := by rw [gI, if_neg (by omega)]
  have b6 := h4.1 6
  refine CT.of (by decide) (Nat.le_of_ble_eq_true rfl) ?_
  refine rw_aload_n d_Node_prepare_0 rfl (by first | exact mm_ref_r _ | exact mm_ref_n | exact mm_ref_o _) ?_
  refine rw_get d_Node_prepare_1 fF_Node_47 h0 rfl ?_
  refine rw_callV (kc := 0) (ks := 0) (rest := []) d_Node_prepare_4 (c_size hN7 h3 h4) mW_Reports_size mL_Node_215 mI_Reports_size mE_Reports_size ⟨by decide, by decide⟩ hrr.1 rfl rfl rfl rfl (Nat.le_of_ble_eq_true rfl) (fun r M1 sz1 hq => ?_)
  obtain ⟨rfl, rfl, rfl⟩ := hq
  refine rw_stk (st' := [.int (nI (pSize (eN E) x))]) rfl ?_
  refine rw_aload_n d_Node_prepare_7 rfl (by first | exact mm_ref_r _ | exact mm_ref_n | exact mm_ref_o _) ?_
  refine rw_get d_Node_prepare_8 fF_Node_29 h0 rfl ?_
  refine rw_callV (kc := 0) (ks := 0) (rest := [.int (nI (pSize (eN E) x))]) d_Node_prepare_11 (c_quorum hpl hN7 hCN) mW_Plan_quorum mL_Node_218 mI_Plan_quorum mE_Plan_quorum ⟨by decide, by decide⟩ hpl rfl rfl rfl rfl (Nat.le_of_ble_eq_true rfl) (fun r M1 sz1 hq => ?_)
  obtain ⟨rfl, rfl, rfl⟩ := hq
  refine rw_stk (st' := [.int (nI (eN E - eC E + 1)), .int (nI (pSize (eN E) x))]) rfl ?_
  by_cases c1 : pSize (eN E) x < eQ E
  · refine rw_icmp_ge_f (tgt := 18) d_Node_prepare_14 (by decide) (nI_ge c1 (by omega)) ?_
    have ep : pPrep E n x = (x, []) := by rw [pPrep, if_neg hr, if_pos c1]
    rw [ep]
    exact rw_vret d_Node_prepare_17 rfl ⟨rfl, rfl, hN, by rw [pSend_nil hP.len]; exact hS, fun _ _ _ => rfl⟩
  · refine rw_icmp_ge_t (tgt := 18) d_Node_prepare_14 (by decide) (nI_le (Nat.not_lt.mp c1) (by omega)) ?_
    refine rw_aload_n d_Node_prepare_18 rfl (by first | exact mm_ref_r _ | exact mm_ref_n | exact mm_ref_o _) ?_
    refine rw_get d_Node_prepare_19 fF_Node_47 h0 rfl ?_
    refine rw_aload_n d_Node_prepare_22 rfl (by first | exact mm_ref_r _ | exact mm_ref_n | exact mm_ref_o _) ?_
    refine rw_get d_Node_prepare_23 fF_Node_25 h0 rfl ?_
    refine rw_callV (kc := 0) (ks := 0) (rest := []) d_Node_prepare_26 (c_furthest hN7 hn h3 h4) mW_Reports_furthest mL_Node_221 mI_Reports_furthest mE_Reports_furthest ⟨by decide, by decide⟩ hrr.1 rfl rfl rfl rfl (Nat.le_of_ble_eq_true rfl) (fun r M1 sz1 hq => ?_)
    obtain ⟨rfl, rfl, rfl⟩ := hq
    refine rw_stk (st' := [.int (nI (pFar (eN E) x n))]) rfl ?_
    have hfar : pFar (eN E) x n < eN E := by rcases pFar_lt x (self := n) (eN E) with z | z <;> omega
    refine rw_istore_n d_Node_prepare_29 (by decide) rfl ?_
    refine rw_iload_n d_Node_prepare_30 rfl ?_
    refine rw_aload_n d_Node_prepare_31 rfl (by first | exact mm_ref_r _ | exact mm_ref_n | exact mm_ref_o _) ?_
    refine rw_get d_Node_prepare_32 fF_Node_25 h0 rfl ?_
    by_cases c2 : pFar (eN E) x n = n
    · refine rw_icmp_ne_f (tgt := 66) d_Node_prepare_35 (by decide) (by rw [c2]) ?_
      refine rw_aload_n d_Node_prepare_38 rfl (by first | exact mm_ref_r _ | exact mm_ref_n | exact mm_ref_o _) ?_
      refine rw_get d_Node_prepare_39 fF_Node_47 h0 rfl ?_
      refine rw_iconst (v := 1) d_Node_prepare_42 (by decide) ?_
      refine rw_put d_Node_prepare_43 (fP_Node_166 _) hrr.1 (Nat.le_of_ble_eq_true rfl) (by first | rfl | assumption | decide) (by first | rfl | assumption | decide) ?_
      refine rw_aload_n d_Node_prepare_46 rfl (by first | exact mm_ref_r _ | exact mm_ref_n | exact mm_ref_o _) ?_
      refine rw_get d_Node_prepare_47 fF_Node_47 (mup_get (by omega) h0) rfl ?_
      refine rw_aload_n d_Node_prepare_50 rfl (by first | exact mm_ref_r _ | exact mm_ref_n | exact mm_ref_o _) ?_
      refine rw_get d_Node_prepare_51 fF_Node_12 (mup_get (by omega) h0) rfl ?_
      refine rw_get d_Node_prepare_54 fF_Node_146 (mup_get (by omega) h1.1) rfl ?_
      refine rw_get d_Node_prepare_57 fF_Node_204 (mup_get (by omega) hc0) rfl ?_
      refine rw_put d_Node_prepare_60 (fP_Node_224 _) (mup_self _ _ _) (Nat.le_of_ble_eq_true rfl) (by first | rfl | assumption | decide) (by first | rfl | assumption | decide) ?_
      refine rw_goto (tgt := 89) d_Node_prepare_63 (by decide) ?_
      have ep : pPrep E n x = ((fun j => if j = 10 then 1 else if j = 11 then x 6 else x j), []) := by rw [pPrep, if_neg hr, if_neg c1, if_pos c2]
      rw [ep]
      have hF : ∀ e1 e2, Fr M1 (mup (mup M1 (a + 11) e1) (a + 11) e2) a 15 := fun e1 e2 => Fr.mup (Fr.mup Fr.rf (by omega) (by omega)) (by omega) (by omega)
      obtain ⟨r0, r1, r2, r3⟩ := hrr
      refine rw_vret d_Node_prepare_89 rfl ⟨rfl, rfl, ⟨?_, ?_, ?_, ⟨hd, en, dn, ⟨?_, ?_, ?_, ?_⟩, fun m hm => ?_⟩, ?_⟩, by rw [pSend_nil hP.len]; exact hS.node hN hpa (hF _ _), Fr2.of1 (hF _ _)⟩
      · rw [mup_ne _ _ (by omega), mup_ne _ _ (by omega)]
        exact h0
      · exact h1.kept (fun y z1 z2 => by rw [mup_ne _ _ (by omega), mup_ne _ _ (by omega)])
      · exact h2.kept (fun y z1 z2 => by rw [mup_ne _ _ (by omega), mup_ne _ _ (by omega)])
      · rw [mup_self]
        rfl
      · rw [mup_ne _ _ (by omega), mup_ne _ _ (by omega)]
        exact r1
      · rw [mup_ne _ _ (by omega), mup_ne _ _ (by omega)]
        exact r2
      · rw [mup_ne _ _ (by omega), mup_ne _ _ (by omega)]
        exact r3
      · simp only
        rw [if_neg (show ¬ 20 + m = 10 by omega), if_neg (show ¬ 20 + m = 11 by omega), if_neg (show ¬ 30 + m = 10 by omega), if_neg (show ¬ 30 + m = 11 by omega), if_neg (show ¬ 40 + m = 10 by omega), if_neg (show ¬ 40 + m = 11 by omega)]
        exact h3b m hm
      · refine ⟨fun j => ?_, fun j hj => ?_⟩
        · simp only
          (repeat' split) <;> first | omega | exact h4.1 _
        · simp only
          (repeat' split) <;> first | omega | exact h4.2 j hj
    · refine rw_icmp_ne_t (tgt := 66) d_Node_prepare_35 (by decide) (fun z => c2 ((nI_eq (by omega) (by omega)).mp z)) ?_
      refine rw_aload_n d_Node_prepare_66 rfl (by first | exact mm_ref_r _ | exact mm_ref_n | exact mm_ref_o _) ?_
      refine rw_get d_Node_prepare_67 fF_Node_33 h0 rfl ?_
      refine rw_kind (i := 6) (by decide) fS_Node_227 d_Node_prepare_70 ?_
      refine rw_aload_n d_Node_prepare_73 rfl (by first | exact mm_ref_r _ | exact mm_ref_n | exact mm_ref_o _) ?_
      refine rw_get d_Node_prepare_74 fF_Node_25 h0 rfl ?_
      refine rw_iload_n d_Node_prepare_77 rfl ?_
      refine rw_aload_n d_Node_prepare_78 rfl (by first | exact mm_ref_r _ | exact mm_ref_n | exact mm_ref_o _) ?_
      refine rw_get d_Node_prepare_79 fF_Node_12 h0 rfl ?_
      refine rw_get d_Node_prepare_82 fF_Node_103 h1.1 rfl ?_
      have egf : nI (pFar (eN E) x n) = gI (pFar (eN E) x n) := by rw [gI, if_neg (by omega)]
      refine rw_stk (st' := [.int (nI (x 4)), .int (gI (pFar (eN E) x n)), .int (gI n), .ref (gad G 6), .ref p]) (by rw [← egn, ← egf]) ?_
      refine rw_callV (kc := 0) (ks := 0) (rest := []) d_Node_prepare_85 (c_send (k := 6) (f := n) (t := pFar (eN E) x n) (e := x 4) hP) mW_Post_send mL_Node_136 mI_Post_send mE_Post_send ⟨by decide, by decide⟩ hP.choose_spec.choose_spec.choose_spec.1 rfl rfl rfl rfl (Nat.le_of_ble_eq_true rfl) (fun r M2 sz2 hq => ?_)
      have hpl2 := hq.plain (by omega)
      obtain ⟨rfl, q1, j, hj, rfl, -⟩ := hq
      refine rw_stk (st' := [.ref (p + 3 + 5 * j)]) rfl ?_
      refine rw_pop d_Node_prepare_88 rfl ?_
      have ep : pPrep E n x = (x, [(6, n, pFar (eN E) x n, x 4, 0, 0)]) := by rw [pPrep, if_neg hr, if_neg c1, if_neg c2]
      rw [ep]
      exact rw_vret d_Node_prepare_89 rfl ⟨rfl, rfl, hN.kept (fun y z1 z2 => q1 y (by omega)), hS.sent hpl2 q1, Fr2.of0 q1⟩
theorem c_sendCopy {M : mm_M} {m : Nat} (hN : NdP M ca cm g E pl p a n x) (hS : SyP G M ca cm g E pl p post) (hpa : p + 328 ≤ a) (hn : n < eN E) (hm : m < eN E) (h30 : x (30 + m) < 1000000) : CT l G Y_Node_sendCopy ds_Node_sendCopy (rm 2) [.ref a, .int (nI m)] M sz (NdQ G M sz ca cm g E pl p a n x (pSend post [(if x (30 + m) + 8 < x 6 then 8 else 7, n, m, x 4, x 6, x 5)])) := by
  obtain ⟨h0, h1, h2, h3, h4⟩ := id hN
  obtain ⟨hP, hA, hpl, hlt, hN7, hCN, -, hg, -, -⟩ := id hS
  obtain ⟨hd, en, dn, ⟨r0, r1, r2, r3⟩, h3b⟩ := id h3
  obtain ⟨hh, hc0⟩ := h1.2.obj
  have egn : nI n = gI n := by rw [gI, if_neg (by omega)]
  have egm : nI m = gI m := by rw [gI, if_neg (by omega)]
  have b6 := h4.1 6
  have b30 := h4.1 (30 + m)
  obtain ⟨-, -, -, -, -, x5b, x6b, -⟩ := id h1.2
  refine CT.of (by decide) (Nat.le_of_ble_eq_true rfl) ?_
  refine rw_aload_n d_Node_sendCopy_0 rfl (by first | exact mm_ref_r _ | exact mm_ref_n | exact mm_ref_o _) ?_
  refine rw_get d_Node_sendCopy_1 fF_Node_12 h0 rfl ?_
  refine rw_get d_Node_sendCopy_4 fF_Node_146 h1.1 rfl ?_
  refine rw_aload_n d_Node_sendCopy_7 rfl (by first | exact mm_ref_r _ | exact mm_ref_n | exact mm_ref_o _) ?_
  refine rw_get d_Node_sendCopy_8 fF_Node_47 h0 rfl ?_
  refine rw_get d_Node_sendCopy_11 fF_Node_248 r0 rfl ?_
  refine rw_iload_n d_Node_sendCopy_14 rfl ?_
  refine rw_iald d_Node_sendCopy_15 r2 (vp_in_nI hm (by omega)) ?_
  rw [nI_c (by omega), (h3b m hm).2.1]
  refine rw_callV (kc := 0) (ks := 0) (rest := []) d_Node_sendCopy_16 (c_reaches (o := x (30 + m)) hc0 (by omega) (by omega)) mW_Copy_reachesBackTo mL_Node_260 mI_Copy_reachesBackTo mE_Copy_reachesBackTo ⟨by decide, by decide⟩ hc0 rfl rfl rfl rfl (Nat.le_of_ble_eq_true rfl) (fun r M1 sz1 hq => ?_)
  obtain ⟨rfl, rfl, rfl⟩ := hq
  refine rw_stk (st' := [.int (bI (decide (x 6 ≤ x (30 + m) + 8)))]) rfl ?_
  have tail : ∀ (w : Bool) (k : Nat), k < 10 → w = decide (k = 8) → (k = 7 ∨ k = 8) → k = (if x (30 + m) + 8 < x 6 then 8 else 7) → RW l G Y_Node_sendCopy (rm 2) (mm_Z G (rm 2) (NdQ G M1 sz1 ca cm g E pl p a n x (pSend post [(if x (30 + m) + 8 < x 6 then 8 else 7, n, m, x 4, x 6, x 5)]))) 0 0 41 [(0, .ref a), (1, .int (nI m)), (2, .int (bI w))] [.ref (gad G k)] M1 sz1 := by
    intro w k hk hw hk78 hkk
    refine rw_astore_n d_Node_sendCopy_41 (by decide) (by first | exact mm_ref_r _ | exact mm_ref_n | exact mm_ref_o _) rfl ?_
    refine rw_aload_n d_Node_sendCopy_42 rfl (by first | exact mm_ref_r _ | exact mm_ref_n | exact mm_ref_o _) ?_
    refine rw_get d_Node_sendCopy_43 fF_Node_33 h0 rfl ?_
    refine rw_aload_n d_Node_sendCopy_46 rfl (by first | exact mm_ref_r _ | exact mm_ref_n | exact mm_ref_o _) ?_
    refine rw_aload_n d_Node_sendCopy_47 rfl (by first | exact mm_ref_r _ | exact mm_ref_n | exact mm_ref_o _) ?_
    refine rw_get d_Node_sendCopy_48 fF_Node_25 h0 rfl ?_
    refine rw_iload_n d_Node_sendCopy_51 rfl ?_
    refine rw_aload_n d_Node_sendCopy_52 rfl (by first | exact mm_ref_r _ | exact mm_ref_n | exact mm_ref_o _) ?_
    refine rw_get d_Node_sendCopy_53 fF_Node_12 h0 rfl ?_
    refine rw_get d_Node_sendCopy_56 fF_Node_103 h1.1 rfl ?_
    refine rw_stk (st' := [.int (nI (x 4)), .int (gI m), .int (gI n), .ref (gad G k), .ref p]) (by rw [← egn, ← egm]) ?_
    refine rw_callV (kc := 0) (ks := 0) (rest := []) d_Node_sendCopy_59 (c_send (k := k) (f := n) (t := m) (e := x 4) hP) mW_Post_send mL_Node_136 mI_Post_send mE_Post_send ⟨by decide, by decide⟩ hP.choose_spec.choose_spec.choose_spec.1 rfl rfl rfl rfl (Nat.le_of_ble_eq_true rfl) (fun r M2 sz2 hq => ?_)
    obtain ⟨rfl, q1, j, hj, rfl, ⟨s', en', dn', nu', a2, cv', d, b, w1, w2, w3⟩, q2⟩ := hq
    have hN2 := hN.kept (M' := M2) (fun y y1 y2 => q1 y (by omega))
    have hA2 := hA.post hP q1
    refine rw_stk (st' := [.ref (p + 3 + 5 * j)]) rfl ?_
    refine rw_get d_Node_sendCopy_62 fF_Node_142 w1 rfl ?_
    refine rw_aload_n d_Node_sendCopy_65 rfl (by first | exact mm_ref_r _ | exact mm_ref_n | exact mm_ref_o _) ?_
    refine rw_get d_Node_sendCopy_66 fF_Node_12 hN2.1 rfl ?_
    refine rw_get d_Node_sendCopy_69 fF_Node_146 hN2.2.1.1 rfl ?_
    refine rw_iload_n d_Node_sendCopy_72 rfl ?_
    obtain ⟨hh2, hw2⟩ := w3.obj
    refine rw_callV (kc := 0) (ks := 0) (rest := []) d_Node_sendCopy_73 (c_copyFrom (w := w) (f := 2) hA2 w3 hN2.2.1.2 (by omega)) mW_Copy_copyFrom mL_Node_147 mI_Copy_copyFrom mE_Copy_copyFrom ⟨by decide, by decide⟩ hw2 rfl rfl rfl rfl (Nat.le_of_ble_eq_true rfl) (fun r M3 sz3 hq => ?_)
    obtain ⟨rfl, rfl, q3, q4⟩ := hq
    refine rw_stk (st' := []) rfl ?_
    have hF3 : Fr M1 M3 p 328 := q1.trans (q4.wider (by omega) (by omega))
    have hP3 := q2 M3 (k, n, m, x 4, x 6, x 5) (q4.wider (by omega) (by omega)) ⟨s', en', dn', nu', a2, cv', x 5, x 6, (q4 _ (by omega)).trans w1, w2, q3.le (by omega), (fun z => by simp only at z; omega), (fun z => by simp only at z; omega), (fun z => by simp only at z; omega), (fun z => by simp only at z; omega), (fun z => q3.le (by split <;> omega)), (fun z => by simp only at z; subst z; rw [hw] at q3; exact q3)⟩
    rw [hkk] at hP3
    exact rw_vret d_Node_sendCopy_76 rfl ⟨rfl, rfl, hN.kept (fun y y1 y2 => hF3 y (by omega)), hS.sent hP3 hF3, Fr2.of0 hF3⟩
  by_cases c : x 6 ≤ x (30 + m) + 8
  · rw [decide_eq_true c]
    refine rw_if_ne_t (tgt := 26) d_Node_sendCopy_19 (by decide) (by decide) ?_
    refine rw_iconst (v := 0) d_Node_sendCopy_26 (by decide) ?_
    refine rw_istore_n d_Node_sendCopy_27 (by decide) rfl ?_
    refine rw_iload_n d_Node_sendCopy_28 rfl ?_
    refine rw_if_eq_t (tgt := 38) d_Node_sendCopy_29 (by decide) (rfl) ?_
    refine rw_kind (i := 7) (by decide) fS_Node_263 d_Node_sendCopy_38 ?_
    refine rw_lv (lv' := [(0, .ref a), (1, .int (nI m)), (2, .int (bI false))]) (by intro q hq; simp at hq; rcases hq with rfl | rfl | rfl <;> rfl) ?_
    exact tail false 7 (by omega) rfl (by omega) (by rw [if_neg (by omega)])
  · rw [decide_eq_false c]
    refine rw_if_ne_f (tgt := 26) d_Node_sendCopy_19 (by decide) (by decide) ?_
    refine rw_iconst (v := 1) d_Node_sendCopy_22 (by decide) ?_
    refine rw_goto (tgt := 27) d_Node_sendCopy_23 (by decide) ?_
    refine rw_istore_n d_Node_sendCopy_27 (by decide) rfl ?_
    refine rw_iload_n d_Node_sendCopy_28 rfl ?_
    refine rw_if_eq_f (tgt := 38) d_Node_sendCopy_29 (by decide) (by decide) ?_
    refine rw_kind (i := 8) (by decide) fS_Node_133 d_Node_sendCopy_32 ?_
    refine rw_goto (tgt := 41) d_Node_sendCopy_35 (by decide) ?_
    refine rw_lv (lv' := [(0, .ref a), (1, .int (nI m)), (2, .int (bI true))]) (by intro q hq; simp at hq; rcases hq with rfl | rfl | rfl <;> rfl) ?_
    exact tail true 8 (by omega) rfl (by omega) (by rw [if_pos (by omega)])
end LEAD1
