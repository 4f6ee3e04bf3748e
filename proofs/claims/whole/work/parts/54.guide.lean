/-! Node.guide. -/
section LEAD2
variable {l : Launch} {G : mm_G} {sz : Nat} {ca : Nat → Nat} {cm : Nat → pCm} {g : Nat} {E : pE} {pl p a n : Nat} {x : pN} {post : List pMsg}
set_option maxRecDepth 100000 in
theorem c_guide {M : mm_M} {m : Nat} (hN : NdP M ca cm g E pl p a n x) (hS : SyP G M ca cm g E pl p post) (hpa : p + 328 ≤ a) (hn : n < eN E) (hm : m < eN E) (h30 : x (30 + m) < 1000000) : CT l G Y_Node_guide ds_Node_guide (rm 3) [.ref a, .int (nI m)] M sz (NdQ G M sz ca cm g E pl p a n x (pSend post (pGuide E n x m))) := by
  obtain ⟨h0, h1, h2, h3, h4⟩ := id hN
  obtain ⟨hP, hA, hpl, hlt, hN7, hCN, -, hg, hM64, -⟩ := id hS
  obtain ⟨hd, en, dn, hrr, h3b⟩ := id h3
  obtain ⟨r0, r1, r2, r3⟩ := id hrr
  obtain ⟨hh, hc0⟩ := h1.2.obj
  have egn : nI n = gI n := by rw [gI, if_neg (by omega)]
  have egm : nI m = gI m := by rw [gI, if_neg (by omega)]
  have b20 := h4.2 (20 + m) (by omega)
  have b10 := h4.2 10 (by omega)
  have b40 := h4.1 (40 + m)
  have b11 := h4.1 11
  obtain ⟨-, -, -, -, -, x5b, x6b, -⟩ := id h1.2
  have him := vp_in_nI hm (show eN E < 2147483648 by omega)
  refine CT.of (by decide) (Nat.le_of_ble_eq_true rfl) ?_
  refine rw_aload_n d_Node_guide_0 rfl (by first | exact mm_ref_r _ | exact mm_ref_n | exact mm_ref_o _) ?_
  refine rw_get d_Node_guide_1 fF_Node_47 h0 rfl ?_
  refine rw_get d_Node_guide_4 fF_Node_238 r0 rfl ?_
  refine rw_iload_n d_Node_guide_7 rfl ?_
  refine rw_zald d_Node_guide_8 r1 him ?_
  rw [nI_c (by omega), (h3b m hm).1]
  rcases (show x (20 + m) = 0 ∨ x (20 + m) = 1 by omega) with c0 | c0
  · rw [c0]
    refine rw_if_ne_f (tgt := 38) d_Node_guide_9 (by decide) (by decide) ?_
    refine rw_aload_n d_Node_guide_12 rfl (by first | exact mm_ref_r _ | exact mm_ref_n | exact mm_ref_o _) ?_
    refine rw_get d_Node_guide_13 fF_Node_33 h0 rfl ?_
    refine rw_kind (i := 4) (by decide) fS_Node_242 d_Node_guide_16 ?_
    refine rw_aload_n d_Node_guide_19 rfl (by first | exact mm_ref_r _ | exact mm_ref_n | exact mm_ref_o _) ?_
    refine rw_get d_Node_guide_20 fF_Node_25 h0 rfl ?_
    refine rw_iload_n d_Node_guide_23 rfl ?_
    refine rw_aload_n d_Node_guide_24 rfl (by first | exact mm_ref_r _ | exact mm_ref_n | exact mm_ref_o _) ?_
    refine rw_get d_Node_guide_25 fF_Node_12 h0 rfl ?_
    refine rw_get d_Node_guide_28 fF_Node_103 h1.1 rfl ?_
    refine rw_stk (st' := [.int (nI (x 4)), .int (gI m), .int (gI n), .ref (gad G 4), .ref p]) (by rw [← egn, ← egm]) ?_
    refine rw_callV (kc := 0) (ks := 0) (rest := []) d_Node_guide_31 (c_send (k := 4) (f := n) (t := m) (e := x 4) hP) mW_Post_send mL_Node_136 mI_Post_send mE_Post_send ⟨by decide, by decide⟩ hP.choose_spec.choose_spec.choose_spec.1 rfl rfl rfl rfl (Nat.le_of_ble_eq_true rfl) (fun r M2 sz2 hq => ?_)
    have hpl2 := hq.plain (by omega)
    obtain ⟨rfl, q1, j, hj, rfl, -⟩ := hq
    refine rw_stk (st' := [.ref (p + 3 + 5 * j)]) rfl ?_
    refine rw_pop d_Node_guide_34 rfl ?_
    refine rw_goto (tgt := 180) d_Node_guide_35 (by decide) ?_
    have ep : pGuide E n x m = [(4, n, m, x 4, 0, 0)] := by rw [pGuide, if_pos (by omega)]
    rw [ep]
    exact rw_vret d_Node_guide_180 rfl ⟨rfl, rfl, hN.kept (fun y z1 z2 => q1 y (by omega)), hS.sent hpl2 q1, Fr2.of0 q1⟩
  · rw [c0]
    refine rw_if_ne_t (tgt := 38) d_Node_guide_9 (by decide) (by decide) ?_
    have none_ : pGuide E n x m = [] → RW l G Y_Node_guide (rm 3) (mm_Z G (rm 3) (NdQ G M sz ca cm g E pl p a n x (pSend post (pGuide E n x m)))) 0 0 180 [(0, .ref a), (1, .int (nI m))] [] M sz := by
      intro ep
      rw [ep, pSend_nil hP.len]
      exact rw_vret d_Node_guide_180 rfl ⟨rfl, rfl, hN, hS, fun _ _ _ => rfl⟩
    refine rw_aload_n d_Node_guide_38 rfl (by first | exact mm_ref_r _ | exact mm_ref_n | exact mm_ref_o _) ?_
    refine rw_get d_Node_guide_39 fF_Node_47 h0 rfl ?_
    refine rw_get d_Node_guide_42 fF_Node_166 r0 rfl ?_
    rcases (show x 10 = 0 ∨ x 10 = 1 by omega) with c1 | c1
    · rw [c1]
      refine rw_if_eq_t (tgt := 111) d_Node_guide_45 (by decide) (rfl) ?_
      refine rw_aload_n d_Node_guide_111 rfl (by first | exact mm_ref_r _ | exact mm_ref_n | exact mm_ref_o _) ?_
      refine rw_get d_Node_guide_112 fF_Node_47 h0 rfl ?_
      refine rw_get d_Node_guide_115 fF_Node_166 r0 rfl ?_
      rw [c1]
      refine rw_if_eq_t (tgt := 180) d_Node_guide_118 (by decide) (rfl) ?_
      exact none_ (by rw [pGuide, if_neg (by omega), if_neg (fun z => by omega), if_neg (fun z => by omega)])
    · rw [c1]
      refine rw_if_eq_f (tgt := 111) d_Node_guide_45 (by decide) (by decide) ?_
      refine rw_aload_n d_Node_guide_48 rfl (by first | exact mm_ref_r _ | exact mm_ref_n | exact mm_ref_o _) ?_
      refine rw_get d_Node_guide_49 fF_Node_12 h0 rfl ?_
      refine rw_iload_n d_Node_guide_52 rfl ?_
      refine rw_callV (kc := 0) (ks := 0) (rest := []) d_Node_guide_53 (c_keeps h1.1 (hM64 _) (show m < 7 by omega)) mW_Memory_keeps mL_Node_245 mI_Memory_keeps mE_Memory_keeps ⟨by decide, by decide⟩ h1.1 rfl rfl rfl rfl (Nat.le_of_ble_eq_true rfl) (fun r M1 sz1 hq => ?_)
      obtain ⟨rfl, rfl, rfl⟩ := hq
      refine rw_stk (st' := [.int (bI ((eM E (x 4)).testBit m))]) rfl ?_
      cases c2 : (eM E (x 4)).testBit m with
      | true =>
        refine rw_if_eq_f (tgt := 111) d_Node_guide_56 (by decide) (by decide) ?_
        refine rw_aload_n d_Node_guide_59 rfl (by first | exact mm_ref_r _ | exact mm_ref_n | exact mm_ref_o _) ?_
        refine rw_get d_Node_guide_60 fF_Node_47 h0 rfl ?_
        refine rw_get d_Node_guide_63 fF_Node_248 r0 rfl ?_
        refine rw_iload_n d_Node_guide_66 rfl ?_
        refine rw_iald d_Node_guide_67 r2 him ?_
        refine rw_aload_n d_Node_guide_68 rfl (by first | exact mm_ref_r _ | exact mm_ref_n | exact mm_ref_o _) ?_
        refine rw_get d_Node_guide_69 fF_Node_12 h0 rfl ?_
        refine rw_get d_Node_guide_72 fF_Node_146 h1.1 rfl ?_
        refine rw_get d_Node_guide_75 fF_Node_204 hc0 rfl ?_
        rw [nI_c (by omega), (h3b m hm).2.1]
        have doit : (x (30 + m) < x 6 ∨ x (40 + m) < x 5) → RW l G Y_Node_guide (rm 3) (mm_Z G (rm 3) (NdQ G M1 sz1 ca cm g E pl p a n x (pSend post (pGuide E n x m)))) 0 0 103 [(0, .ref a), (1, .int (nI m))] [] M1 sz1 := by
          intro cc
          refine rw_aload_n d_Node_guide_103 rfl (by first | exact mm_ref_r _ | exact mm_ref_n | exact mm_ref_o _) ?_
          refine rw_iload_n d_Node_guide_104 rfl ?_
          refine rw_callV (kc := 0) (ks := 0) (rest := []) d_Node_guide_105 (c_sendCopy hN hS hpa hn hm h30) mW_Node_sendCopy mL_Node_254 mI_Node_sendCopy mE_Node_sendCopy ⟨by decide, by decide⟩ h0 rfl rfl rfl rfl (Nat.le_of_ble_eq_true rfl) (fun r M2 sz2 hq => ?_)
          obtain ⟨rfl, rfl, q1, q2, q3⟩ := hq
          refine rw_stk (st' := []) rfl ?_
          refine rw_goto (tgt := 180) d_Node_guide_108 (by decide) ?_
          have ep : pGuide E n x m = [(if x (30 + m) + 8 < x 6 then 8 else 7, n, m, x 4, x 6, x 5)] := by rw [pGuide, if_neg (by omega), if_pos ⟨c1, c2⟩, if_pos cc]
          rw [ep]
          exact rw_vret d_Node_guide_180 rfl ⟨rfl, rfl, q1, q2, q3⟩
        by_cases c3 : x (30 + m) < x 6
        · refine rw_icmp_lt_t (tgt := 103) d_Node_guide_78 (by decide) (nI_lt c3 (by omega)) ?_
          exact doit (Or.inl c3)
        · refine rw_icmp_lt_f (tgt := 103) d_Node_guide_78 (by decide) (nI_nlt (by omega) (by omega)) ?_
          refine rw_aload_n d_Node_guide_81 rfl (by first | exact mm_ref_r _ | exact mm_ref_n | exact mm_ref_o _) ?_
          refine rw_get d_Node_guide_82 fF_Node_47 h0 rfl ?_
          refine rw_get d_Node_guide_85 fF_Node_251 r0 rfl ?_
          refine rw_iload_n d_Node_guide_88 rfl ?_
          refine rw_iald d_Node_guide_89 r3 him ?_
          refine rw_aload_n d_Node_guide_90 rfl (by first | exact mm_ref_r _ | exact mm_ref_n | exact mm_ref_o _) ?_
          refine rw_get d_Node_guide_91 fF_Node_12 h0 rfl ?_
          refine rw_get d_Node_guide_94 fF_Node_146 h1.1 rfl ?_
          refine rw_get d_Node_guide_97 fF_Node_205 hc0 rfl ?_
          rw [nI_c (by omega), (h3b m hm).2.2]
          by_cases c4 : x (40 + m) < x 5
          · refine rw_icmp_ge_f (tgt := 180) d_Node_guide_100 (by decide) (nI_ge c4 (by omega)) ?_
            exact doit (Or.inr c4)
          · refine rw_icmp_ge_t (tgt := 180) d_Node_guide_100 (by decide) (nI_le (by omega) (by omega)) ?_
            exact none_ (by rw [pGuide, if_neg (by omega), if_pos ⟨c1, c2⟩, if_neg (by omega)])
      | false =>
        refine rw_if_eq_t (tgt := 111) d_Node_guide_56 (by decide) (rfl) ?_
        refine rw_aload_n d_Node_guide_111 rfl (by first | exact mm_ref_r _ | exact mm_ref_n | exact mm_ref_o _) ?_
        refine rw_get d_Node_guide_112 fF_Node_47 h0 rfl ?_
        refine rw_get d_Node_guide_115 fF_Node_166 r0 rfl ?_
        rw [c1]
        refine rw_if_eq_f (tgt := 180) d_Node_guide_118 (by decide) (by decide) ?_
        refine rw_aload_n d_Node_guide_121 rfl (by first | exact mm_ref_r _ | exact mm_ref_n | exact mm_ref_o _) ?_
        refine rw_get d_Node_guide_122 fF_Node_47 h0 rfl ?_
        refine rw_get d_Node_guide_125 fF_Node_248 r0 rfl ?_
        refine rw_iload_n d_Node_guide_128 rfl ?_
        refine rw_iald d_Node_guide_129 r2 him ?_
        rw [nI_c (by omega), (h3b m hm).2.1]
        have hnk : ¬ (x 10 = 1 ∧ eKb E (x 4) m = true) := fun z => by have w := z.2.symm.trans c2; cases w
        by_cases c3 : x (30 + m) = 0
        · refine rw_if_le_t (tgt := 180) d_Node_guide_130 (by decide) (by rw [c3]; decide) ?_
          exact none_ (by rw [pGuide, if_neg (by omega), if_neg hnk, if_neg (fun z => by omega)])
        · refine rw_if_le_f (tgt := 180) d_Node_guide_130 (by decide) (nI_nle (by omega) (by omega)) ?_
          refine rw_aload_n d_Node_guide_133 rfl (by first | exact mm_ref_r _ | exact mm_ref_n | exact mm_ref_o _) ?_
          refine rw_get d_Node_guide_134 fF_Node_47 h0 rfl ?_
          refine rw_aload_n d_Node_guide_137 rfl (by first | exact mm_ref_r _ | exact mm_ref_n | exact mm_ref_o _) ?_
          refine rw_get d_Node_guide_138 fF_Node_12 h0 rfl ?_
          refine rw_get d_Node_guide_141 fF_Node_230 h1.1 rfl ?_
          refine rw_callV (kc := 0) (ks := 0) (rest := []) d_Node_guide_144 (c_agreed hN7 (hM64 (x 4)) h3 h4) mW_Reports_agreed mL_Node_232 mI_Reports_agreed mE_Reports_agreed ⟨by decide, by decide⟩ r0 rfl rfl rfl rfl (Nat.le_of_ble_eq_true rfl) (fun r M2 sz2 hq => ?_)
          obtain ⟨rfl, rfl, rfl⟩ := hq
          have hag := pAgr_le (eM E (x 4)) x (eN E)
          refine rw_stk (st' := [.int (nI (pAgr (eM E (x 4)) (eN E) x))]) rfl ?_
          refine rw_aload_n d_Node_guide_147 rfl (by first | exact mm_ref_r _ | exact mm_ref_n | exact mm_ref_o _) ?_
          refine rw_get d_Node_guide_148 fF_Node_47 h0 rfl ?_
          refine rw_get d_Node_guide_151 fF_Node_224 r0 rfl ?_
          by_cases c4 : x 11 ≤ pAgr (eM E (x 4)) (eN E) x
          · refine rw_icmp_lt_f (tgt := 180) d_Node_guide_154 (by decide) (nI_nlt c4 (by omega)) ?_
            refine rw_aload_n d_Node_guide_157 rfl (by first | exact mm_ref_r _ | exact mm_ref_n | exact mm_ref_o _) ?_
            refine rw_get d_Node_guide_158 fF_Node_33 h0 rfl ?_
            refine rw_kind (i := 9) (by decide) fS_Node_257 d_Node_guide_161 ?_
            refine rw_aload_n d_Node_guide_164 rfl (by first | exact mm_ref_r _ | exact mm_ref_n | exact mm_ref_o _) ?_
            refine rw_get d_Node_guide_165 fF_Node_25 h0 rfl ?_
            refine rw_iload_n d_Node_guide_168 rfl ?_
            refine rw_aload_n d_Node_guide_169 rfl (by first | exact mm_ref_r _ | exact mm_ref_n | exact mm_ref_o _) ?_
            refine rw_get d_Node_guide_170 fF_Node_12 h0 rfl ?_
            refine rw_get d_Node_guide_173 fF_Node_103 h1.1 rfl ?_
            refine rw_stk (st' := [.int (nI (x 4)), .int (gI m), .int (gI n), .ref (gad G 9), .ref p]) (by rw [← egn, ← egm]) ?_
            refine rw_callV (kc := 0) (ks := 0) (rest := []) d_Node_guide_176 (c_send (k := 9) (f := n) (t := m) (e := x 4) hP) mW_Post_send mL_Node_136 mI_Post_send mE_Post_send ⟨by decide, by decide⟩ hP.choose_spec.choose_spec.choose_spec.1 rfl rfl rfl rfl (Nat.le_of_ble_eq_true rfl) (fun r M3 sz3 hq => ?_)
            have hpl2 := hq.plain (by omega)
            obtain ⟨rfl, q1, j, hj, rfl, -⟩ := hq
            refine rw_stk (st' := [.ref (p + 3 + 5 * j)]) rfl ?_
            refine rw_pop d_Node_guide_179 rfl ?_
            have ep : pGuide E n x m = [(9, n, m, x 4, 0, 0)] := by rw [pGuide, if_neg (by omega), if_neg hnk, if_pos ⟨c1, by omega, c4⟩]
            rw [ep]
            exact rw_vret d_Node_guide_180 rfl ⟨rfl, rfl, hN.kept (fun y z1 z2 => q1 y (by omega)), hS.sent hpl2 q1, Fr2.of0 q1⟩
          · refine rw_icmp_lt_t (tgt := 180) d_Node_guide_154 (by decide) (nI_lt (by omega) (by omega)) ?_
            exact none_ (by rw [pGuide, if_neg (by omega), if_neg hnk, if_neg (fun z => c4 z.2.2)])
end LEAD2
