/-! Node: doWhatIsAgreed, lead. -/
section LEAD3
variable {l : Launch} {G : mm_G} {sz : Nat} {ca : Nat → Nat} {cm : Nat → pCm} {g : Nat} {E : pE} {pl p a n : Nat} {x : pN} {post : List pMsg}
theorem agreed_loop {M : mm_M} {y : pN} (hpa : p + 328 ≤ a) (hn : n < eN E) (h4y : y 4 = x 4) (hy5 : x 5 ≤ y 5) (hy8 : y 5 ≤ x 5 + 8) (hb5 : y 5 ≤ 512) : ∀ (m k : Nat) (M1 : mm_M), m + k = y 5 - x 5 → NdP M1 ca cm g E pl p a n y → SyP G M1 ca cm g E pl p (pSend post ((List.range k).map (fun i => pAns n x (x 5 + i)))) → Fr2 M M1 p a →
    RW l G Y_Node_doWhatIsAgreed (rm 4) (mm_Z G (rm 4) (NdQ G M sz ca cm g E pl p a n y (pSend post ((List.range (y 5 - x 5)).map (fun i => pAns n x (x 5 + i)))))) 0 0 46 [(0, .ref a), (2, .int (nI (x 5 + k)))] [] M1 sz := by
  intro m
  induction m with
  | zero =>
    intro k M1 hk hN hS hF
    obtain ⟨h0, h1, h2, h3, h4⟩ := id hN
    obtain ⟨hh, hc0⟩ := h1.2.obj
    have : k = y 5 - x 5 := by omega
    subst this
    refine rw_iload_n d_Node_doWhatIsAgreed_46 rfl ?_
    refine rw_aload_n d_Node_doWhatIsAgreed_47 rfl (by first | exact mm_ref_r _ | exact mm_ref_n | exact mm_ref_o _) ?_
    refine rw_get d_Node_doWhatIsAgreed_48 fF_Node_12 h0 rfl ?_
    refine rw_get d_Node_doWhatIsAgreed_51 fF_Node_146 h1.1 rfl ?_
    refine rw_get d_Node_doWhatIsAgreed_54 fF_Node_205 hc0 rfl ?_
    refine rw_icmp_ge_t (tgt := 71) d_Node_doWhatIsAgreed_57 (by decide) (nI_le (by omega) (by omega)) ?_
    exact rw_vret d_Node_doWhatIsAgreed_71 rfl ⟨rfl, rfl, hN, hS, hF⟩
  | succ m ih =>
    intro k M1 hk hN hS hF
    obtain ⟨h0, h1, h2, h3, h4⟩ := id hN
    obtain ⟨hh, hc0⟩ := h1.2.obj
    refine rw_iload_n d_Node_doWhatIsAgreed_46 rfl ?_
    refine rw_aload_n d_Node_doWhatIsAgreed_47 rfl (by first | exact mm_ref_r _ | exact mm_ref_n | exact mm_ref_o _) ?_
    refine rw_get d_Node_doWhatIsAgreed_48 fF_Node_12 h0 rfl ?_
    refine rw_get d_Node_doWhatIsAgreed_51 fF_Node_146 h1.1 rfl ?_
    refine rw_get d_Node_doWhatIsAgreed_54 fF_Node_205 hc0 rfl ?_
    refine rw_icmp_ge_f (tgt := 71) d_Node_doWhatIsAgreed_57 (by decide) (nI_ge (by omega) (by omega)) ?_
    refine rw_aload_n d_Node_doWhatIsAgreed_60 rfl (by first | exact mm_ref_r _ | exact mm_ref_n | exact mm_ref_o _) ?_
    refine rw_iload_n d_Node_doWhatIsAgreed_61 rfl ?_
    refine rw_callV (kc := 0) (ks := 0) (rest := []) d_Node_doWhatIsAgreed_62 (c_tellAnswer (i := x 5 + k) hN hS hpa hn (by omega) (by omega)) mW_Node_tellAnswer mL_Node_178 mI_Node_tellAnswer mE_Node_tellAnswer ⟨by decide, by decide⟩ h0 rfl rfl rfl rfl (Nat.le_of_ble_eq_true rfl) (fun r M2 sz2 hq => ?_)
    obtain ⟨rfl, rfl, q1, q2, q3⟩ := hq
    refine rw_stk (st' := []) rfl ?_
    refine rw_iinc d_Node_doWhatIsAgreed_65 (by decide) rfl rfl rfl ?_
    refine rw_lv (lv' := [(0, .ref a), (2, .int (nI (x 5 + (k + 1))))]) (by rw [← Nat.add_assoc, ← nI_1]; intro q hq; simp at hq; rcases hq with rfl | rfl <;> rfl) ?_
    refine rw_goto (tgt := 46) d_Node_doWhatIsAgreed_68 (by decide) ?_
    refine ih (k + 1) M2 (by omega) q1 ?_ (hF.trans q3)
    rw [pSend_app] at q2
    have e : (List.range (k + 1)).map (fun i => pAns n x (x 5 + i)) = (List.range k).map (fun i => pAns n x (x 5 + i)) ++ [pAns n y (x 5 + k)] := by
      rw [List.range_succ, List.map_append]
      simp [pAns, h4y]
    rw [e]
    exact q2
theorem c_agreedDo {M : mm_M} (hN : NdP M ca cm g E pl p a n x) (hS : SyP G M ca cm g E pl p post) (hpa : p + 328 ≤ a) (hn : n < eN E) (hr : x 10 = 1) : CT l G Y_Node_doWhatIsAgreed ds_Node_doWhatIsAgreed (rm 4) [.ref a] M sz (NdQ G M sz ca cm g E pl p a n (pDo E n x).1 (pSend post (pDo E n x).2)) := by
  obtain ⟨h0, h1, h2, h3, h4⟩ := id hN
  obtain ⟨hP, hA, hpl, hlt, hN7, hCN, -, hg, hM64, -⟩ := id hS
  obtain ⟨hd, en, dn, hrr, h3b⟩ := id h3
  obtain ⟨hh, hc0⟩ := h1.2.obj
  have b1 := h4.2 1 (by omega)
  have hag := pAgr_le (eM E (x 4)) x (eN E)
  obtain ⟨hv9, vv9, av9, lv9, hr9, x5b, x6b, wf9, c4, c59⟩ := id h1.2
  obtain ⟨c4a, c4b, -⟩ := c4 (by omega)
  refine CT.of (by decide) (Nat.le_of_ble_eq_true rfl) ?_
  refine rw_aload_n d_Node_doWhatIsAgreed_0 rfl (by first | exact mm_ref_r _ | exact mm_ref_n | exact mm_ref_o _) ?_
  refine rw_get d_Node_doWhatIsAgreed_1 fF_Node_12 h0 rfl ?_
  refine rw_get d_Node_doWhatIsAgreed_4 fF_Node_146 h1.1 rfl ?_
  refine rw_get d_Node_doWhatIsAgreed_7 fF_Node_205 hc0 rfl ?_
  refine rw_istore_n d_Node_doWhatIsAgreed_10 (by decide) rfl ?_
  refine rw_aload_n d_Node_doWhatIsAgreed_11 rfl (by first | exact mm_ref_r _ | exact mm_ref_n | exact mm_ref_o _) ?_
  refine rw_dup d_Node_doWhatIsAgreed_12 rfl ?_
  refine rw_get d_Node_doWhatIsAgreed_13 fF_Node_76 h0 rfl ?_
  refine rw_aload_n d_Node_doWhatIsAgreed_16 rfl (by first | exact mm_ref_r _ | exact mm_ref_n | exact mm_ref_o _) ?_
  refine rw_get d_Node_doWhatIsAgreed_17 fF_Node_12 h0 rfl ?_
  refine rw_get d_Node_doWhatIsAgreed_20 fF_Node_146 h1.1 rfl ?_
  refine rw_aload_n d_Node_doWhatIsAgreed_23 rfl (by first | exact mm_ref_r _ | exact mm_ref_n | exact mm_ref_o _) ?_
  refine rw_get d_Node_doWhatIsAgreed_24 fF_Node_47 h0 rfl ?_
  refine rw_aload_n d_Node_doWhatIsAgreed_27 rfl (by first | exact mm_ref_r _ | exact mm_ref_n | exact mm_ref_o _) ?_
  refine rw_get d_Node_doWhatIsAgreed_28 fF_Node_12 h0 rfl ?_
  refine rw_get d_Node_doWhatIsAgreed_31 fF_Node_230 h1.1 rfl ?_
  refine rw_callV (kc := 0) (ks := 0) (rest := [.ref (a + 1 + 1), .int (nI (x 1)), .ref a]) d_Node_doWhatIsAgreed_34 (c_agreed hN7 (hM64 (x 4)) h3 h4) mW_Reports_agreed mL_Node_232 mI_Reports_agreed mE_Reports_agreed ⟨by decide, by decide⟩ hrr.1 rfl rfl rfl rfl (Nat.le_of_ble_eq_true rfl) (fun r M1 sz1 hq => ?_)
  obtain ⟨rfl, rfl, rfl⟩ := hq
  refine rw_stk (st' := [.int (nI (pAgreed E x)), .ref (a + 1 + 1), .int (nI (x 1)), .ref a]) rfl ?_
  refine rw_callV (kc := 0) (ks := 0) (rest := [.int (nI (x 1)), .ref a]) d_Node_doWhatIsAgreed_37 (c_doUpTo (lim := pAgreed E x) hA h1.2 (Nat.lt_of_le_of_lt hag (by omega))) mW_Copy_doUpTo mL_Node_235 mI_Copy_doUpTo mE_Copy_doUpTo ⟨by decide, by decide⟩ hc0 rfl rfl rfl rfl (Nat.le_of_ble_eq_true rfl) (fun r M2 sz2 hq => ?_)
  obtain ⟨rfl, rfl, q1, q2⟩ := hq
  refine rw_stk (st' := [.int (bI (decide (x 5 < min (pAgreed E x) (x 6)))), .int (nI (x 1)), .ref a]) rfl ?_
  refine rw_ior d_Node_doWhatIsAgreed_40 ?_
  have ey : pDo E n x = ((fun j => if j = 5 then max (x 5) (min (pAgreed E x) (x 6)) else if j = 1 then (if x 5 < min (pAgreed E x) (x 6) then 1 else x 1) else x j), (List.range (max (x 5) (min (pAgreed E x) (x 6)) - x 5)).map (fun i => pAns n x (x 5 + i))) := by rw [pDo, if_pos hr]
  generalize hy : (fun j => if j = 5 then max (x 5) (min (pAgreed E x) (x 6)) else if j = 1 then (if x 5 < min (pAgreed E x) (x 6) then 1 else x 1) else x j) = y at ey
  have y5 : y 5 = max (x 5) (min (pAgreed E x) (x 6)) := by rw [← hy]; rfl
  have y1 : y 1 = if x 5 < min (pAgreed E x) (x 6) then 1 else x 1 := by rw [← hy]; rfl
  have ys : ∀ j, j ≠ 5 → j ≠ 1 → y j = x j := fun j j1 j2 => by
    rw [← hy]
    simp only
    rw [if_neg j1, if_neg j2]
  have eor : nI (x 1) ||| bI (decide (x 5 < min (pAgreed E x) (x 6))) = nI (y 1) := by
    rw [y1]
    rcases (show x 1 = 0 ∨ x 1 = 1 by omega) with z | z
    · by_cases w : x 5 < min (pAgreed E x) (x 6)
      · rw [if_pos w, decide_eq_true w, z]
        rfl
      · rw [if_neg w, decide_eq_false w, z]
        rfl
    · by_cases w : x 5 < min (pAgreed E x) (x 6)
      · rw [if_pos w, decide_eq_true w, z]
        rfl
      · rw [if_neg w, decide_eq_false w, z]
        rfl
  rw [eor]
  have hz01 : y 1 = 0 ∨ y 1 = 1 := by
    rw [y1]
    split <;> omega
  have hnb : narrow .boolean (.int (nI (y 1))) = .int (nI (y 1)) := by
    rcases hz01 with z | z <;> rw [z] <;> rfl
  have hfb : fits .boolean (.int (nI (y 1))) = true := by
    rcases hz01 with z | z <;> rw [z] <;> rfl
  refine rw_put d_Node_doWhatIsAgreed_41 (fP_Node_76 _) ((q2 a (by omega)).trans h0) (Nat.le_of_ble_eq_true rfl) (by first | rfl | assumption | decide) (by first | rfl | assumption | decide) ?_
  refine rw_iload_n d_Node_doWhatIsAgreed_44 rfl ?_
  refine rw_istore_n d_Node_doWhatIsAgreed_45 (by decide) rfl ?_
  refine rw_lv (lv' := [(0, .ref a), (2, .int (nI (x 5 + 0)))]) (by intro q hq; simp at hq; rcases hq with rfl | rfl <;> rfl) ?_
  have hF : ∀ e1, Fr M1 (mup M2 a e1) a 15 := fun e1 => Fr.mup (q2.wider (by omega) (by omega)) (by omega) (by omega)
  rw [show (pDo E n x).1 = y by rw [ey], show (pDo E n x).2 = (List.range (y 5 - x 5)).map (fun i => pAns n x (x 5 + i)) by rw [ey, y5]]
  have hmin : min (pAgreed E x) (x 6) ≤ x 6 := Nat.min_le_right _ _
  refine agreed_loop hpa hn (ys 4 (by omega) (by omega)) (by omega) (by omega) (by omega) (y 5 - x 5) 0 _ (by omega) ⟨?_, ⟨?_, ?_⟩, ?_, ?_, ?_⟩ ?_ (Fr2.of1 (hF _))
  · rw [mup_self]
    simp only [ndO]
    rw [ys 0 (by omega) (by omega), ys 2 (by omega) (by omega), ys 3 (by omega) (by omega)]
    rfl
  · rw [mup_ne _ _ (by omega), q2 _ (by omega), ys 4 (by omega) (by omega)]
    exact h1.1
  · rw [y5, ys 6 (by omega) (by omega)]
    exact q1.kept (fun z z1 z2 => mup_ne _ _ (by omega))
  · rw [ys 7 (by omega) (by omega), ys 8 (by omega) (by omega), ys 9 (by omega) (by omega)]
    exact h2.kept (fun z z1 z2 => by rw [mup_ne _ _ (by omega), q2 z (by omega)])
  · exact (h3.kept (fun z z1 z2 => by rw [mup_ne _ _ (by omega), q2 z (by omega)])).same (ys 10 (by omega) (by omega)) (ys 11 (by omega) (by omega)) (fun m hm => ⟨ys _ (by omega) (by omega), ys _ (by omega) (by omega), ys _ (by omega) (by omega)⟩)
  · refine ⟨fun j => ?_, fun j hj => ?_⟩
    · by_cases z1 : j = 5
      · rw [z1]; omega
      · by_cases z2 : j = 1
        · rw [z2]; omega
        · rw [ys j z1 z2]
          exact h4.1 j
    · by_cases z2 : j = 1
      · rw [z2]; omega
      · rw [ys j (by omega) z2]
        exact h4.2 j hj
  · rw [List.range_zero, List.map_nil, pSend_nil hP.len]
    exact hS.node hN hpa (hF _)
end LEAD3
