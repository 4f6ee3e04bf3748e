/-! Node.hearCommand. -/
section NODE2
variable {l : Launch} {G : mm_G} {sz : Nat} {ca : Nat → Nat} {cm : Nat → pCm} {g : Nat} {E : pE} {pl p a n : Nat} {x : pN} {post : List pMsg}
def pHearC (E : pE) (n : Nat) (x : pN) (i : Nat) : pN × List pMsg := if eL E (x 4) = n ∧ x 10 = 1 then (if pRemembers x i then (x, [pAns n x i]) else (pAppend x i, [])) else (x, [])
theorem c_hearCommand {M : mm_M} {i : Nat} (hN : NdP M ca cm g E pl p a n x) (hS : SyP G M ca cm g E pl p post) (hpa : p + 328 ≤ a) (hn : n < eN E) (hi : i < g) : CT l G Y_Node_hearCommand ds_Node_hearCommand (rm 4) [.ref a, .ref (ca i)] M sz (NdQ G M sz ca cm g E pl p a n (pHearC E n x i).1 (pSend post (pHearC E n x i).2)) := by
  obtain ⟨h0, h1, h2, h3, h4⟩ := id hN
  obtain ⟨hP, hA, hpl, hlt, hN7, -, -, hg, -, -⟩ := id hS
  obtain ⟨hd, en, dn, ⟨r0, r1, r2, r3⟩, r4⟩ := id h3
  obtain ⟨hh, hc0⟩ := h1.2.obj
  have hw := (hA i hi).2
  have b10 := h4.2 10 (by omega)
  have b1 := h4.2 1 (by omega)
  refine CT.of (by decide) (Nat.le_of_ble_eq_true rfl) ?_
  refine rw_aload_n d_Node_hearCommand_0 rfl (by first | exact mm_ref_r _ | exact mm_ref_n | exact mm_ref_o _) ?_
  refine rw_ifnull_f d_Node_hearCommand_1 ?_
  refine rw_aload_n d_Node_hearCommand_4 rfl (by first | exact mm_ref_r _ | exact mm_ref_n | exact mm_ref_o _) ?_
  refine rw_get d_Node_hearCommand_5 fF_Node_12 h0 rfl ?_
  refine rw_get d_Node_hearCommand_8 fF_Node_163 h1.1 rfl ?_
  refine rw_aload_n d_Node_hearCommand_11 rfl (by first | exact mm_ref_r _ | exact mm_ref_n | exact mm_ref_o _) ?_
  refine rw_get d_Node_hearCommand_12 fF_Node_25 h0 rfl ?_
  have hl := eL_lt E (x 4) hN7
  have hcmp : (gI (eL E (x 4)) = nI n) ↔ eL E (x 4) = n := by
    rcases hl with z | z
    · rw [z]
      constructor
      · intro w
        have := congrArg Int32.toInt w
        rw [nI_toInt (by omega)] at this
        have h5 : (gI 99).toInt = -1 := by decide
        omega
      · intro w
        omega
    · rw [gI, if_neg (by omega), nI_eq (by omega) (by omega)]
  by_cases c1 : eL E (x 4) = n
  · refine rw_icmp_ne_f (tgt := 28) d_Node_hearCommand_15 (by decide) (hcmp.mpr c1) ?_
    refine rw_aload_n d_Node_hearCommand_18 rfl (by first | exact mm_ref_r _ | exact mm_ref_n | exact mm_ref_o _) ?_
    refine rw_get d_Node_hearCommand_19 fF_Node_47 h0 rfl ?_
    refine rw_get d_Node_hearCommand_22 fF_Node_166 r0 rfl ?_
    rcases (show x 10 = 0 ∨ x 10 = 1 by omega) with c2 | c2
    · rw [c2]
      refine rw_if_ne_f (tgt := 29) d_Node_hearCommand_25 (by decide) (by decide) ?_
      have e : pHearC E n x i = (x, []) := by rw [pHearC, if_neg (fun z => by omega)]
      rw [e]
      exact rw_vret d_Node_hearCommand_28 rfl ⟨rfl, rfl, hN, by rw [pSend_nil hP.len]; exact hS, fun _ _ _ => rfl⟩
    · rw [c2]
      refine rw_if_ne_t (tgt := 29) d_Node_hearCommand_25 (by decide) (by decide) ?_
      refine rw_aload_n d_Node_hearCommand_29 rfl (by first | exact mm_ref_r _ | exact mm_ref_n | exact mm_ref_o _) ?_
      refine rw_get d_Node_hearCommand_30 fF_Node_12 h0 rfl ?_
      refine rw_get d_Node_hearCommand_33 fF_Node_146 h1.1 rfl ?_
      refine rw_aload_n d_Node_hearCommand_36 rfl (by first | exact mm_ref_r _ | exact mm_ref_n | exact mm_ref_o _) ?_
      refine rw_get d_Node_hearCommand_37 fF_Node_169 hw rfl ?_
      have hcp := h1.2
      obtain ⟨-, -, -, -, -, c512, e512, -, c4, -⟩ := id hcp
      refine rw_callV (kc := 0) (ks := 0) (rest := []) d_Node_hearCommand_40 (c_remembers (i := i) hc0 (by omega) (by omega)) mW_Copy_remembers mL_Node_174 mI_Copy_remembers mE_Copy_remembers ⟨by decide, by decide⟩ hc0 rfl rfl rfl rfl (Nat.le_of_ble_eq_true rfl) (fun r M1 sz1 hq => ?_)
      obtain ⟨rfl, rfl, rfl⟩ := hq
      refine rw_stk (st' := [.int (bI (pRemembers x i))]) rfl ?_
      cases c3 : pRemembers x i with
      | true =>
        refine rw_if_eq_f (tgt := 57) d_Node_hearCommand_43 (by decide) (by decide) ?_
        refine rw_aload_n d_Node_hearCommand_46 rfl (by first | exact mm_ref_r _ | exact mm_ref_n | exact mm_ref_o _) ?_
        refine rw_aload_n d_Node_hearCommand_47 rfl (by first | exact mm_ref_r _ | exact mm_ref_n | exact mm_ref_o _) ?_
        refine rw_get d_Node_hearCommand_48 fF_Node_169 hw rfl ?_
        have c3' : i < x 5 ∧ x 5 ≤ i + 8 := by simpa [pRemembers] using c3
        refine rw_callV (kc := 0) (ks := 0) (rest := []) d_Node_hearCommand_51 (c_tellAnswer (i := i) hN hS hpa hn c3'.1 c3'.2) mW_Node_tellAnswer mL_Node_178 mI_Node_tellAnswer mE_Node_tellAnswer ⟨by decide, by decide⟩ h0 rfl rfl rfl rfl (Nat.le_of_ble_eq_true rfl) (fun r2 M2 sz2 hq2 => ?_)
        obtain ⟨rfl, rfl, q1, q2, q3⟩ := hq2
        refine rw_stk (st' := []) rfl ?_
        refine rw_goto (tgt := 77) d_Node_hearCommand_54 (by decide) ?_
        have e : pHearC E n x i = (x, [pAns n x i]) := by rw [pHearC, if_pos ⟨c1, c2⟩, c3]; rfl
        rw [e]
        exact rw_vret d_Node_hearCommand_77 rfl ⟨rfl, rfl, q1, q2, q3⟩
      | false =>
        refine rw_if_eq_t (tgt := 57) d_Node_hearCommand_43 (by decide) (rfl) ?_
        refine rw_aload_n d_Node_hearCommand_57 rfl (by first | exact mm_ref_r _ | exact mm_ref_n | exact mm_ref_o _) ?_
        refine rw_dup d_Node_hearCommand_58 rfl ?_
        refine rw_get d_Node_hearCommand_59 fF_Node_76 h0 rfl ?_
        refine rw_aload_n d_Node_hearCommand_62 rfl (by first | exact mm_ref_r _ | exact mm_ref_n | exact mm_ref_o _) ?_
        refine rw_get d_Node_hearCommand_63 fF_Node_12 h0 rfl ?_
        refine rw_get d_Node_hearCommand_66 fF_Node_146 h1.1 rfl ?_
        refine rw_aload_n d_Node_hearCommand_69 rfl (by first | exact mm_ref_r _ | exact mm_ref_n | exact mm_ref_o _) ?_
        refine rw_callV (kc := 0) (ks := 0) (rest := [.int (nI (x 1)), .ref a]) d_Node_hearCommand_70 (c_appendP (i := i) hA hcp hi hg) mW_Copy_append mL_Node_181 mI_Copy_append mE_Copy_append ⟨by decide, by decide⟩ hc0 rfl rfl rfl rfl (Nat.le_of_ble_eq_true rfl) (fun r2 M2 sz2 hq2 => ?_)
        obtain ⟨rfl, rfl, q1, q2⟩ := hq2
        refine rw_stk (st' := [.int (bI (decide (i = x 6 ∧ x 6 < x 5 + 8))), .int (nI (x 1)), .ref a]) rfl ?_
        refine rw_ior d_Node_hearCommand_73 ?_
        have e1v : pAppend x i 1 = if i = x 6 ∧ x 6 < x 5 + 8 then 1 else x 1 := by
          unfold pAppend
          split <;> rfl
        have eor : nI (x 1) ||| bI (decide (i = x 6 ∧ x 6 < x 5 + 8)) = nI (pAppend x i 1) := by
          rw [e1v]
          rcases (show x 1 = 0 ∨ x 1 = 1 by omega) with z | z
          · by_cases w : i = x 6 ∧ x 6 < x 5 + 8
            · rw [if_pos w, decide_eq_true w, z]
              rfl
            · rw [if_neg w, decide_eq_false w, z]
              rfl
          · by_cases w : i = x 6 ∧ x 6 < x 5 + 8
            · rw [if_pos w, decide_eq_true w, z]
              rfl
            · rw [if_neg w, decide_eq_false w, z]
              rfl
        rw [eor]
        have hbz : pAppend x i 1 ≤ 1 := by
          rw [e1v]
          split
          · exact Nat.le_refl _
          · exact b1
        have hnb : narrow .boolean (.int (nI (pAppend x i 1))) = .int (nI (pAppend x i 1)) := by
          rcases (show pAppend x i 1 = 0 ∨ pAppend x i 1 = 1 by omega) with z | z
          · rw [z]
            rfl
          · rw [z]
            rfl
        have hfb : fits .boolean (.int (nI (pAppend x i 1))) = true := by
          rcases (show pAppend x i 1 = 0 ∨ pAppend x i 1 = 1 by omega) with z | z
          · rw [z]
            rfl
          · rw [z]
            rfl
        refine rw_put d_Node_hearCommand_74 (fP_Node_76 _) ((q2 a (by omega)).trans h0) (Nat.le_of_ble_eq_true rfl) (by first | rfl | assumption | decide) (by first | rfl | assumption | decide) ?_
        have hF : ∀ e1, Fr M1 (mup M2 a e1) a 15 := fun e1 => Fr.mup (q2.wider (by omega) (by omega)) (by omega) (by omega)
        have e : pHearC E n x i = (pAppend x i, []) := by rw [pHearC, if_pos ⟨c1, c2⟩, c3]; rfl
        rw [show (pHearC E n x i).1 = pAppend x i by rw [e], show (pHearC E n x i).2 = [] by rw [e]]
        have es : ∀ j, j ≠ 1 → j ≠ 6 → pAppend x i j = x j := fun j j1 j2 => by
          unfold pAppend
          split
          · simp only
            rw [if_neg j2, if_neg j1]
          · rfl
        have e6 : pAppend x i 6 = if i = x 6 ∧ x 6 < x 5 + 8 then x 6 + 1 else x 6 := by
          unfold pAppend
          split <;> rfl
        have hS2 := hS.node hN hpa (hF (.inr (9, [.int (nI n), .ref pl, .ref p, .ref (a + 1), .ref (a + 6), .ref (a + 11), .int (nI (x 0)), .int (nI (pAppend x i 1)), .int (nI (x 2)), .int (nI (x 3))])))
        refine rw_vret d_Node_hearCommand_77 rfl ⟨rfl, rfl, ⟨?_, ⟨?_, ?_⟩, ?_, ?_, ?_⟩, by rw [pSend_nil hP.len]; exact hS2, Fr2.of1 (hF _)⟩
        · rw [mup_self]
          simp only [ndO]
          rw [es 0 (by omega) (by omega), es 2 (by omega) (by omega), es 3 (by omega) (by omega)]
          rfl
        · rw [mup_ne _ _ (by omega), q2 _ (by omega), es 4 (by omega) (by omega)]
          exact h1.1
        · rw [es 5 (by omega) (by omega), e6]
          exact q1.kept (fun y y1 y2 => mup_ne _ _ (by omega))
        · rw [es 7 (by omega) (by omega), es 8 (by omega) (by omega), es 9 (by omega) (by omega)]
          exact h2.kept (fun y y1 y2 => by rw [mup_ne _ _ (by omega), q2 y (by omega)])
        · exact (h3.kept (fun y y1 y2 => by rw [mup_ne _ _ (by omega), q2 y (by omega)])).same (es 10 (by omega) (by omega)) (es 11 (by omega) (by omega)) (fun m hm => ⟨es _ (by omega) (by omega), es _ (by omega) (by omega), es _ (by omega) (by omega)⟩)
        · refine ⟨fun j => ?_, fun j hj => ?_⟩
          · by_cases z1 : j = 1
            · rw [z1]; omega
            · by_cases z2 : j = 6
              · rw [z2, e6]
                split <;> omega
              · rw [es j z1 z2]
                exact h4.1 j
          · by_cases z1 : j = 1
            · rw [z1]; omega
            · rw [es j z1 (by omega)]
              exact h4.2 j hj
  · refine rw_icmp_ne_t (tgt := 28) d_Node_hearCommand_15 (by decide) (fun z => c1 (hcmp.mp z)) ?_
    have e : pHearC E n x i = (x, []) := by rw [pHearC, if_neg (fun z => c1 z.1)]
    rw [e]
    exact rw_vret d_Node_hearCommand_28 rfl ⟨rfl, rfl, hN, by rw [pSend_nil hP.len]; exact hS, fun _ _ _ => rfl⟩
end NODE2
