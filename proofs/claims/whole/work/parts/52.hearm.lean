/-! Node.hear: any message. -/
/-- a message that can be under way -/
def mOk (E : pE) (m : pMsg) : Prop := m.1 < 10 ∧ m.2.2.2.1 < 1000000 ∧ (m.1 = 1 ∨ m.1 = 5 ∨ m.1 = 6 → m.2.1 < eN E) ∧ (m.1 ≠ 1 → m.1 ≠ 3 → m.2.2.1 < eN E) ∧ m.2.2.2.2.1 ≤ 512 ∧ m.2.2.2.2.2 ≤ 512
section HEARM
variable {l : Launch} {G : mm_G} {sz : Nat} {ca : Nat → Nat} {cm : Nat → pCm} {g : Nat} {E : pE} {pl p a n : Nat} {x : pN} {post : List pMsg}
set_option maxRecDepth 100000 in
theorem c_hear {M : mm_M} {j : Nat} {m : pMsg} (hN : NdP M ca cm g E pl p a n x) (hS : SyP G M ca cm g E pl p post) (hpa : p + 328 ≤ a) (hn : n < eN E) (hj : j < 64) (hm : MsP G M ca cm g E (p + 3 + 5 * j) m) (hok : mOk E m) (h1k : m.1 ≠ 1) (h3k : m.1 ≠ 3) :
    CT l G Y_Node_hear ds_Node_hear (rm 5) [.ref a, .ref (p + 3 + 5 * j)] M sz (NdQ G M sz ca cm g E pl p a n (pHear E n x m).1 (pSend post (pHear E n x m).2)) := by
  obtain ⟨h0, h1, h2, h3, h4⟩ := id hN
  obtain ⟨hP, hA, hpl, hlt, hN7, -, -, hg, -, -⟩ := id hS
  obtain ⟨k, f, t, e, u, v⟩ := m
  obtain ⟨o1, o2, o3, o4, o5, o6⟩ := hok
  simp only at o1 o2 o3 o4 o5 o6 h1k h3k
  obtain ⟨s, en, dn, nu, an, cv, d0, b0, w1, w2, w3, w4, w5, w6, w7, w8, w9⟩ := id hm
  simp only at w1 w4 w5 w6 w7 w8 w9
  have b4 := h4.1 4
  refine CT.of (by decide) (Nat.le_of_ble_eq_true rfl) ?_
  refine rw_aload_n d_Node_hear_0 rfl (by first | exact mm_ref_r _ | exact mm_ref_n | exact mm_ref_o _) ?_
  refine rw_get d_Node_hear_1 fF_Node_85 w1 rfl ?_
  refine rw_kind (i := 0) (by decide) fS_Node_91 d_Node_hear_4 ?_
  by_cases c0 : k = 0
  · subst c0
    refine rw_acmp_ne_f (tgt := 16) d_Node_hear_7 (by decide) ?_
    refine rw_aload_n d_Node_hear_10 rfl (by first | exact mm_ref_r _ | exact mm_ref_n | exact mm_ref_o _) ?_
    refine rw_aload_n d_Node_hear_11 rfl (by first | exact mm_ref_r _ | exact mm_ref_n | exact mm_ref_o _) ?_
    have ws := w4 rfl
    rw [ws] at w1
    refine rw_callV (kc := 0) (ks := 0) (rest := []) d_Node_hear_12 (c_hearMap hN hS hpa (by omega) (by omega) (by omega) w1) mW_Node_hearMap mL_Node_96 mI_Node_hearMap mE_Node_hearMap ⟨by decide, by decide⟩ h0 rfl rfl rfl rfl (Nat.le_of_ble_eq_true rfl) (fun r M1 sz1 hq => ?_)
    obtain ⟨rfl, rfl, q1, q2, q3⟩ := hq
    refine rw_stk (st' := []) rfl ?_
    have ep : pHear E n x (0, f, t, e, u, v) = (pHearMap e x, []) := by simp [pHear]
    rw [ep]
    exact rw_vret d_Node_hear_15 rfl ⟨rfl, rfl, q1, by rw [pSend_nil hP.len]; exact q2, q3⟩
  · refine rw_acmpK_t (tgt := 16) o1 (by decide) c0 d_Node_hear_7 (by decide) ?_
    refine rw_aload_n d_Node_hear_16 rfl (by first | exact mm_ref_r _ | exact mm_ref_n | exact mm_ref_o _) ?_
    refine rw_get d_Node_hear_17 fF_Node_100 w1 rfl ?_
    refine rw_aload_n d_Node_hear_20 rfl (by first | exact mm_ref_r _ | exact mm_ref_n | exact mm_ref_o _) ?_
    refine rw_get d_Node_hear_21 fF_Node_12 h0 rfl ?_
    refine rw_get d_Node_hear_24 fF_Node_103 h1.1 rfl ?_
    have quiet : (pHear E n x (k, f, t, e, u, v) = (x, [])) → RW l G Y_Node_hear (rm 5) (mm_Z G (rm 5) (NdQ G M sz ca cm g E pl p a n (pHear E n x (k, f, t, e, u, v)).1 (pSend post (pHear E n x (k, f, t, e, u, v)).2))) 0 0 30 (hrL a (p + 3 + 5 * j)) [] M sz := by
      intro ep
      rw [ep]
      exact rw_vret d_Node_hear_30 rfl ⟨rfl, rfl, hN, by rw [pSend_nil hP.len]; exact hS, fun _ _ _ => rfl⟩
    by_cases c1 : e = x 4
    · refine rw_icmp_eq_t (tgt := 31) d_Node_hear_27 (by decide) (by rw [c1]) ?_
      refine rw_swm fS_Node_104 d_Node_hear_31 ?_
      refine rw_aload_n d_Node_hear_34 rfl (by first | exact mm_ref_r _ | exact mm_ref_n | exact mm_ref_o _) ?_
      refine rw_get d_Node_hear_35 fF_Node_85 w1 rfl ?_
      refine rw_ordinal o1 d_Node_hear_38 mL_Node_110 ⟨by decide, by decide⟩ (Nat.le_of_ble_eq_true rfl) ?_
      refine rw_swld d_Node_hear_41 (vp_in_nI (by omega) (by omega)) (v := .int (([0, 0, 1, 0, 2, 3, 4, 5, 6, 7] : List Int32).getD k 0)) (by rw [nI_c (by omega)]; rfl) ?_
      subst c1
      rcases (show k = 2 ∨ k = 4 ∨ k = 5 ∨ k = 6 ∨ k = 7 ∨ k = 8 ∨ k = 9 by omega) with rfl | rfl | rfl | rfl | rfl | rfl | rfl
      · refine rw_stk (st' := [.int 1]) rfl ?_
        refine rw_tabIn (off := 42) (tgt := 84) d_Node_hear_42 (by decide) (by decide) (by decide) (by decide) ?_
        obtain ⟨y1, y2⟩ := w5 rfl
        subst y2
        refine rw_aload_n d_Node_hear_84 rfl (by first | exact mm_ref_r _ | exact mm_ref_n | exact mm_ref_o _) ?_
        refine rw_aload_n d_Node_hear_85 rfl (by first | exact mm_ref_r _ | exact mm_ref_n | exact mm_ref_o _) ?_
        refine rw_get d_Node_hear_86 fF_Node_113 w1 rfl ?_
        refine rw_callV (kc := 0) (ks := 0) (rest := []) d_Node_hear_89 (c_hearCommand (i := u) hN hS hpa hn y1) mW_Node_hearCommand mL_Node_117 mI_Node_hearCommand mE_Node_hearCommand ⟨by decide, by decide⟩ h0 rfl rfl rfl rfl (Nat.le_of_ble_eq_true rfl) (fun r M1 sz1 hq => ?_)
        obtain ⟨rfl, rfl, q1, q2, q3⟩ := hq
        refine rw_stk (st' := []) rfl ?_
        refine rw_goto (tgt := 241) d_Node_hear_92 (by decide) ?_
        have ep : pHear E n x (2, f, t, x 4, u, v) = pHearC E n x u := by simp [pHear, pHearC]
        rw [ep]
        exact rw_vret d_Node_hear_241 rfl ⟨rfl, rfl, q1, q2, q3⟩
      · refine rw_stk (st' := [.int 2]) rfl ?_
        refine rw_tabIn (off := 53) (tgt := 95) d_Node_hear_42 (by decide) (by decide) (by decide) (by decide) ?_
        refine rw_aload_n d_Node_hear_95 rfl (by first | exact mm_ref_r _ | exact mm_ref_n | exact mm_ref_o _) ?_
        refine rw_iconst (v := 1) d_Node_hear_96 (by decide) ?_
        refine rw_put d_Node_hear_97 (fP_Node_82 _) h0 (Nat.le_of_ble_eq_true rfl) (by first | rfl | assumption | decide) (by first | rfl | assumption | decide) ?_
        refine rw_goto (tgt := 241) d_Node_hear_100 (by decide) ?_
        have ep : pHear E n x (4, f, t, x 4, u, v) = (pu x 3 1, []) := by simp [pHear]
        rw [ep]
        have hF4 : ∀ e1, Fr M (mup M a e1) a 15 := fun e1 => Fr.mup Fr.rf (by omega) (by omega)
        exact rw_vret d_Node_hear_241 rfl ⟨rfl, rfl, hN.flag (f := 3) (v := 1) (by omega) (by omega) rfl, by rw [pSend_nil hP.len]; exact hS.node hN hpa (hF4 _), Fr2.of1 (hF4 _)⟩
      · refine rw_stk (st' := [.int 3]) rfl ?_
        refine rw_tabIn (off := 61) (tgt := 103) d_Node_hear_42 (by decide) (by decide) (by decide) (by decide) ?_
        obtain ⟨y1, y2⟩ := w7 rfl
        subst y1 y2
        have hf := o3 (by omega)
        have egf : gI f = nI f := by rw [gI, if_neg (by omega)]
        rw [egf] at w1
        refine rw_aload_n d_Node_hear_103 rfl (by first | exact mm_ref_r _ | exact mm_ref_n | exact mm_ref_o _) ?_
        refine rw_get d_Node_hear_104 fF_Node_47 h0 rfl ?_
        refine rw_aload_n d_Node_hear_107 rfl (by first | exact mm_ref_r _ | exact mm_ref_n | exact mm_ref_o _) ?_
        refine rw_get d_Node_hear_108 fF_Node_121 w1 rfl ?_
        refine rw_aload_n d_Node_hear_111 rfl (by first | exact mm_ref_r _ | exact mm_ref_n | exact mm_ref_o _) ?_
        refine rw_get d_Node_hear_112 fF_Node_124 w1 rfl ?_
        refine rw_aload_n d_Node_hear_115 rfl (by first | exact mm_ref_r _ | exact mm_ref_n | exact mm_ref_o _) ?_
        refine rw_get d_Node_hear_116 fF_Node_127 w1 rfl ?_
        refine rw_callV (kc := 0) (ks := 0) (rest := []) d_Node_hear_119 (c_note (n := f) (b := u) (d := v) hN7 hf h3) mW_Reports_note mL_Node_130 mI_Reports_note mE_Reports_note ⟨by decide, by decide⟩ h3.choose_spec.choose_spec.choose_spec.1.1 rfl rfl rfl rfl (Nat.le_of_ble_eq_true rfl) (fun r M1 sz1 hq => ?_)
        obtain ⟨rfl, rfl, q1, q2⟩ := hq
        refine rw_stk (st' := []) rfl ?_
        refine rw_goto (tgt := 241) d_Node_hear_122 (by decide) ?_
        have ep : pHear E n x (5, f, t, x 4, u, v) = (pNote x f u v, []) := by
          simp [pHear]
          rfl
        rw [show (pHear E n x (5, f, t, x 4, u, v)).1 = pNote x f u v by rw [ep], show (pHear E n x (5, f, t, x 4, u, v)).2 = [] by rw [ep]]
        have lo : ∀ j, j < 20 → pNote x f u v j = x j := fun j hj => by
          unfold pNote
          rw [if_neg (by omega), if_neg (by omega), if_neg (by omega)]
        have hF4 : Fr M M1 a 15 := q2.wider (by omega) (by omega)
        refine rw_vret d_Node_hear_241 rfl ⟨rfl, rfl, ⟨?_, ?_, ?_, q1, ?_⟩, by rw [pSend_nil hP.len]; exact hS.node hN hpa hF4, Fr2.of1 hF4⟩
        · rw [q2 _ (by omega), h0]
          simp only [ndO]
          rw [lo 0 (by omega), lo 1 (by omega), lo 2 (by omega), lo 3 (by omega)]
        · rw [lo 4 (by omega), lo 5 (by omega), lo 6 (by omega)]
          exact h1.kept (fun y z1 z2 => q2 y (by omega))
        · rw [lo 7 (by omega), lo 8 (by omega), lo 9 (by omega)]
          exact h2.kept (fun y z1 z2 => q2 y (by omega))
        · refine ⟨fun j => ?_, fun j hj => ?_⟩
          · unfold pNote
            (repeat' split) <;> first | omega | exact h4.1 _
          · unfold pNote
            (repeat' split) <;> first | omega | exact h4.2 j hj
      · refine rw_stk (st' := [.int 4]) rfl ?_
        refine rw_tabIn (off := 83) (tgt := 125) d_Node_hear_42 (by decide) (by decide) (by decide) (by decide) ?_
        have ep : pHear E n x (6, f, t, x 4, u, v) = (pu x 3 1, [(8, n, f, x 4, x 6, x 5)]) := by simp [pHear]
        rw [ep]
        exact hear_fetch hN hS hpa hn w1
      · refine rw_stk (st' := [.int 5]) rfl ?_
        refine rw_tabIn (off := 130) (tgt := 172) d_Node_hear_42 (by decide) (by decide) (by decide) (by decide) ?_
        have ep : pHear E n x (7, f, t, x 4, u, v) = (pFollow false v u x, []) := by simp [pHear]
        rw [ep]
        show RW l G Y_Node_hear (rm 5) (mm_Z G (rm 5) (NdQ G M sz ca cm g E pl p a n (pFollow false v u x) (pSend post []))) 0 0 172 _ _ M sz
        rw [pSend_nil hP.len]
        exact hear_follow (k := 7) (w := false) (f := 1) hN hS hpa (by omega) (by omega) (by omega) rfl (by omega) (fun z => by cases z) w1 (w8 rfl)
      · refine rw_stk (st' := [.int 6]) rfl ?_
        refine rw_tabIn (off := 130) (tgt := 172) d_Node_hear_42 (by decide) (by decide) (by decide) (by decide) ?_
        have ep : pHear E n x (8, f, t, x 4, u, v) = (pFollow true v u x, []) := by simp [pHear]
        rw [ep]
        show RW l G Y_Node_hear (rm 5) (mm_Z G (rm 5) (NdQ G M sz ca cm g E pl p a n (pFollow true v u x) (pSend post []))) 0 0 172 _ _ M sz
        rw [pSend_nil hP.len]
        exact hear_follow (k := 8) (w := true) (f := 2) hN hS hpa (by omega) (by omega) (by omega) rfl (by omega) (fun _ => rfl) w1 (w9 rfl)
      · refine rw_stk (st' := [.int 7]) rfl ?_
        refine rw_tabIn (off := 176) (tgt := 218) d_Node_hear_42 (by decide) (by decide) (by decide) (by decide) ?_
        have ep : pHear E n x (9, f, t, x 4, u, v) = ((fun j => if j = 5 ∨ j = 6 then 0 else if j = 1 ∨ j = 3 then 1 else x j), []) := by simp [pHear]
        rw [ep]
        show RW l G Y_Node_hear (rm 5) (mm_Z G (rm 5) (NdQ G M sz ca cm g E pl p a n (fun j => if j = 5 ∨ j = 6 then 0 else if j = 1 ∨ j = 3 then 1 else x j) (pSend post []))) 0 0 218 _ _ M sz
        rw [pSend_nil hP.len]
        exact hear_drop hN hS hpa
    · refine rw_icmp_eq_f (tgt := 31) d_Node_hear_27 (by decide) (fun z => c1 ((nI_eq (by omega) (by omega)).mp z)) ?_
      exact quiet (by simp [pHear, c0, c1])
end HEARM
