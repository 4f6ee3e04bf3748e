/-! Node.work. -/
section WORK
variable {l : Launch} {G : mm_G} {sz : Nat} {ca : Nat → Nat} {cm : Nat → pCm} {g : Nat} {E : pE} {pl p a n : Nat} {x : pN} {post : List pMsg}
theorem gI_eq {E : pE} {e n : Nat} (hN7 : eN E < 7) (hn : n < eN E) : (gI (eL E e) = nI n) ↔ eL E e = n := by
  rcases eL_lt E e hN7 with z | z
  · rw [z]
    constructor
    · intro w
      have := congrArg Int32.toInt w
      rw [nI_toInt (by omega)] at this
      have h5 : (gI 99).toInt = -1 := by decide
      omega
    · intro w
      omega
  · rw [gI, if_neg (by omega), nI_eq (by omega) (by omega)]
theorem gI_m1 {E : pE} {e : Nat} (hN7 : eN E < 7) : (gI (eL E e) = -1) ↔ eL E e = 99 := by
  rcases eL_lt E e hN7 with z | z
  · rw [z]
    exact ⟨fun _ => rfl, fun _ => rfl⟩
  · rw [gI, if_neg (by omega)]
    constructor
    · intro w
      have := congrArg Int32.toInt w
      rw [nI_toInt (by omega)] at this
      have h5 : (-1 : Int32).toInt = -1 := by decide
      omega
    · intro w
      omega
set_option maxRecDepth 100000 in
/-- from pc 47 on: lead, or report; then nothing is owed any more -/
theorem work_tail {M M1 : mm_M} {h : List pMsg} (hN : NdP M1 ca cm g E pl p a n x) (hS : SyP G M1 ca cm g E pl p (pSend post h)) (hF : Fr2 M M1 p a) (hpa : p + 328 ≤ a) (hn : n < eN E) (h30 : ∀ m, m < eN E → x (30 + m) < 1000000) :
    RW l G Y_Node_work (rm 6) (mm_Z G (rm 6) (NdQ G M sz ca cm g E pl p a n (if eL E (x 4) = n then pu (pLead E n x).1 3 0 else pu x 3 0) (pSend post (h ++ (if eL E (x 4) = n then (pLead E n x).2 else if x 3 = 1 ∧ eL E (x 4) ≠ 99 then [((5, n, eL E (x 4), x 4, x 6, x 5) : pMsg)] else []))))) 0 0 47 [(0, .ref a)] [] M1 sz := by
  obtain ⟨h0, h1, h2, h3, h4⟩ := id hN
  obtain ⟨hP, hA, hpl, hlt, hN7, hCN, -, hg, hM64, -⟩ := id hS
  obtain ⟨hh, hc0⟩ := h1.2.obj
  have b3 := h4.2 3 (by omega)
  have egn : nI n = gI n := by rw [gI, if_neg (by omega)]
  have fin : ∀ (M2 : mm_M) (y : pN) (ms : List pMsg) , NdP M2 ca cm g E pl p a n y → SyP G M2 ca cm g E pl p (pSend post ms) → Fr2 M M2 p a → ∀ lv, lv.lookup 0 = some (.ref a) → RW l G Y_Node_work (rm 6) (mm_Z G (rm 6) (NdQ G M sz ca cm g E pl p a n (pu y 3 0) (pSend post ms))) 0 0 143 lv [] M2 sz := by
    intro M2 y ms y1 y2 y3 lv hlv
    refine rw_lv (lv' := [(0, .ref a)]) (by intro q hq; simp at hq; rcases hq with rfl; exact hlv) ?_
    refine rw_aload_n d_Node_work_143 rfl (by first | exact mm_ref_r _ | exact mm_ref_n | exact mm_ref_o _) ?_
    refine rw_iconst (v := 0) d_Node_work_144 (by decide) ?_
    refine rw_put d_Node_work_145 (fP_Node_82 _) y1.1 (Nat.le_of_ble_eq_true rfl) (by first | rfl | assumption | decide) (by first | rfl | assumption | decide) ?_
    have hF4 : ∀ e1, Fr M2 (mup M2 a e1) a 15 := fun e1 => Fr.mup Fr.rf (by omega) (by omega)
    exact rw_vret d_Node_work_148 rfl ⟨rfl, rfl, y1.flag (f := 3) (v := 0) (by omega) (by omega) rfl, y2.node y1 hpa (hF4 _), y3.trans (Fr2.of1 (hF4 _))⟩
  refine rw_aload_n d_Node_work_47 rfl (by first | exact mm_ref_r _ | exact mm_ref_n | exact mm_ref_o _) ?_
  refine rw_get d_Node_work_48 fF_Node_12 h0 rfl ?_
  refine rw_get d_Node_work_51 fF_Node_163 h1.1 rfl ?_
  refine rw_aload_n d_Node_work_54 rfl (by first | exact mm_ref_r _ | exact mm_ref_n | exact mm_ref_o _) ?_
  refine rw_get d_Node_work_55 fF_Node_25 h0 rfl ?_
  by_cases c : eL E (x 4) = n
  · rw [if_pos c, if_pos c]
    refine rw_icmp_ne_f (tgt := 68) d_Node_work_58 (by decide) ((gI_eq hN7 hn).mpr c) ?_
    refine rw_aload_n d_Node_work_61 rfl (by first | exact mm_ref_r _ | exact mm_ref_n | exact mm_ref_o _) ?_
    refine rw_callV (kc := 0) (ks := 0) (rest := []) d_Node_work_62 (c_lead hN hS hpa hn h30) mW_Node_lead mL_Node_198 mI_Node_lead mE_Node_lead ⟨by decide, by decide⟩ h0 rfl rfl rfl rfl (Nat.le_of_ble_eq_true rfl) (fun r M2 sz2 hq => ?_)
    obtain ⟨rfl, rfl, q1, q2, q3⟩ := hq
    refine rw_stk (st' := []) rfl ?_
    refine rw_goto (tgt := 143) d_Node_work_65 (by decide) ?_
    rw [pSend_app] at q2
    exact fin M2 _ _ q1 q2 (hF.trans q3) _ rfl
  · rw [if_neg c, if_neg c]
    refine rw_icmp_ne_t (tgt := 68) d_Node_work_58 (by decide) (fun z => c ((gI_eq hN7 hn).mp z)) ?_
    refine rw_aload_n d_Node_work_68 rfl (by first | exact mm_ref_r _ | exact mm_ref_n | exact mm_ref_o _) ?_
    refine rw_get d_Node_work_69 fF_Node_82 h0 rfl ?_
    rcases (show x 3 = 0 ∨ x 3 = 1 by omega) with c3 | c3
    · rw [c3]
      refine rw_if_eq_t (tgt := 143) d_Node_work_72 (by decide) (rfl) ?_
      rw [if_neg (fun z => by omega), List.append_nil]
      exact fin M1 x h hN hS hF _ rfl
    · rw [c3]
      refine rw_if_eq_f (tgt := 143) d_Node_work_72 (by decide) (by decide) ?_
      refine rw_aload_n d_Node_work_75 rfl (by first | exact mm_ref_r _ | exact mm_ref_n | exact mm_ref_o _) ?_
      refine rw_get d_Node_work_76 fF_Node_12 h0 rfl ?_
      refine rw_get d_Node_work_79 fF_Node_163 h1.1 rfl ?_
      refine rw_iconst (v := (-1)) d_Node_work_82 (by decide) ?_
      by_cases c9 : eL E (x 4) = 99
      · refine rw_icmp_eq_t (tgt := 143) d_Node_work_83 (by decide) ((gI_m1 hN7).mpr c9) ?_
        rw [if_neg (fun z => z.2 c9), List.append_nil]
        exact fin M1 x h hN hS hF _ rfl
      · refine rw_icmp_eq_f (tgt := 143) d_Node_work_83 (by decide) (fun z => c9 ((gI_m1 hN7).mp z)) ?_
        rw [if_pos ⟨rfl, c9⟩]
        refine rw_aload_n d_Node_work_86 rfl (by first | exact mm_ref_r _ | exact mm_ref_n | exact mm_ref_o _) ?_
        refine rw_get d_Node_work_87 fF_Node_33 h0 rfl ?_
        refine rw_kind (i := 5) (by decide) fS_Node_201 d_Node_work_90 ?_
        refine rw_aload_n d_Node_work_93 rfl (by first | exact mm_ref_r _ | exact mm_ref_n | exact mm_ref_o _) ?_
        refine rw_get d_Node_work_94 fF_Node_25 h0 rfl ?_
        refine rw_aload_n d_Node_work_97 rfl (by first | exact mm_ref_r _ | exact mm_ref_n | exact mm_ref_o _) ?_
        refine rw_get d_Node_work_98 fF_Node_12 h0 rfl ?_
        refine rw_get d_Node_work_101 fF_Node_163 h1.1 rfl ?_
        refine rw_aload_n d_Node_work_104 rfl (by first | exact mm_ref_r _ | exact mm_ref_n | exact mm_ref_o _) ?_
        refine rw_get d_Node_work_105 fF_Node_12 h0 rfl ?_
        refine rw_get d_Node_work_108 fF_Node_103 h1.1 rfl ?_
        refine rw_stk (st' := [.int (nI (x 4)), .int (gI (eL E (x 4))), .int (gI n), .ref (gad G 5), .ref p]) (by rw [← egn]) ?_
        refine rw_callV (kc := 0) (ks := 0) (rest := []) d_Node_work_111 (c_send (k := 5) (f := n) (t := eL E (x 4)) (e := x 4) hP) mW_Post_send mL_Node_136 mI_Post_send mE_Post_send ⟨by decide, by decide⟩ hP.choose_spec.choose_spec.choose_spec.1 rfl rfl rfl rfl (Nat.le_of_ble_eq_true rfl) (fun r M2 sz2 hq => ?_)
        obtain ⟨rfl, q1, j, hj, rfl, ⟨s', en', dn', nu', a2, cv', d, b, w1, w2, w3⟩, q2⟩ := hq
        have hN2 := hN.kept (M' := M2) (fun y y1 y2 => q1 y (by omega))
        obtain ⟨hh2, hc2⟩ := hN2.2.1.2.obj
        refine rw_stk (st' := [.ref (p + 3 + 5 * j)]) rfl ?_
        refine rw_astore_n d_Node_work_114 (by decide) (by first | exact mm_ref_r _ | exact mm_ref_n | exact mm_ref_o _) rfl ?_
        refine rw_aload_n d_Node_work_115 rfl (by first | exact mm_ref_r _ | exact mm_ref_n | exact mm_ref_o _) ?_
        refine rw_aload_n d_Node_work_116 rfl (by first | exact mm_ref_r _ | exact mm_ref_n | exact mm_ref_o _) ?_
        refine rw_get d_Node_work_117 fF_Node_12 hN2.1 rfl ?_
        refine rw_get d_Node_work_120 fF_Node_146 hN2.2.1.1 rfl ?_
        refine rw_get d_Node_work_123 fF_Node_204 hc2 rfl ?_
        refine rw_put d_Node_work_126 (fP_Node_124 _) w1 (Nat.le_of_ble_eq_true rfl) (by first | rfl | assumption | decide) (by first | rfl | assumption | decide) ?_
        refine rw_aload_n d_Node_work_129 rfl (by first | exact mm_ref_r _ | exact mm_ref_n | exact mm_ref_o _) ?_
        refine rw_aload_n d_Node_work_130 rfl (by first | exact mm_ref_r _ | exact mm_ref_n | exact mm_ref_o _) ?_
        refine rw_get d_Node_work_131 fF_Node_12 (mup_get (by omega) hN2.1) rfl ?_
        refine rw_get d_Node_work_134 fF_Node_146 (mup_get (by omega) hN2.2.1.1) rfl ?_
        refine rw_get d_Node_work_137 fF_Node_205 (mup_get (by omega) hc2) rfl ?_
        refine rw_put d_Node_work_140 (fP_Node_127 _) (mup_self _ _ _) (Nat.le_of_ble_eq_true rfl) (by first | rfl | assumption | decide) (by first | rfl | assumption | decide) ?_
        have hFp : ∀ e1 e2, Fr M1 (mup (mup M2 (p + 3 + 5 * j) e1) (p + 3 + 5 * j) e2) p 328 := fun e1 e2 => Fr.mup (Fr.mup q1 (by omega) (by omega)) (by omega) (by omega)
        have hP3 := q2 (mup (mup M2 (p + 3 + 5 * j) (.inr (3, [.ref (gad G 5), .int (gI n), .int (gI (eL E (x 4))), .int (nI (x 4)), .int s', .int (nI (x 6)), .int dn', .int nu', .int a2, cv', .ref (p + 3 + 5 * j + 1)]))) (p + 3 + 5 * j) (.inr (3, [.ref (gad G 5), .int (gI n), .int (gI (eL E (x 4))), .int (nI (x 4)), .int s', .int (nI (x 6)), .int (nI (x 5)), .int nu', .int a2, cv', .ref (p + 3 + 5 * j + 1)]))) (5, n, eL E (x 4), x 4, x 6, x 5) (Fr.mup (Fr.mup Fr.rf (by omega) (by omega)) (by omega) (by omega)) ⟨s', nI (x 6), nI (x 5), nu', a2, cv', d, b, mup_self _ _ _, w2, (w3.kept (fun y y1 y2 => mup_ne _ _ (by omega))).kept (fun y y1 y2 => mup_ne _ _ (by omega)), (fun z => by cases z), (fun z => by cases z), (fun z => by cases z), fun _ => ⟨rfl, rfl⟩, (fun z => by cases z), (fun z => by cases z)⟩
        rw [pSend_app] at hP3
        exact fin _ x _ (hN.kept (fun y z1 z2 => hFp _ _ y (by omega))) (hS.sent hP3 (hFp _ _)) (hF.trans (Fr2.of0 (hFp _ _))) _ rfl
set_option maxRecDepth 100000 in
theorem c_work {M : mm_M} (hN : NdP M ca cm g E pl p a n x) (hS : SyP G M ca cm g E pl p post) (hpa : p + 328 ≤ a) (hn : n < eN E) (h30 : ∀ m, m < eN E → x (30 + m) < 1000000) : CT l G Y_Node_work ds_Node_work (rm 6) [.ref a] M sz (NdQ G M sz ca cm g E pl p a n (pWork E n x).1 (pSend post (pWork E n x).2)) := by
  obtain ⟨h0, h1, h2, h3, h4⟩ := id hN
  obtain ⟨hP, hA, hpl, hlt, hN7, hCN, -, hg, hM64, -⟩ := id hS
  have b0 := h4.2 0 (by omega)
  have egn : nI n = gI n := by rw [gI, if_neg (by omega)]
  refine CT.of (by decide) (Nat.le_of_ble_eq_true rfl) ?_
  refine rw_aload_n d_Node_work_0 rfl (by first | exact mm_ref_r _ | exact mm_ref_n | exact mm_ref_o _) ?_
  refine rw_get d_Node_work_1 fF_Node_21 h0 rfl ?_
  rcases (show x 0 = 0 ∨ x 0 = 1 by omega) with c0 | c0
  · rw [c0]
    refine rw_if_ne_f (tgt := 8) d_Node_work_4 (by decide) (by decide) ?_
    have ep : pWork E n x = (x, []) := by rw [pWork, if_pos (by omega)]
    rw [ep]
    exact rw_vret d_Node_work_7 rfl ⟨rfl, rfl, hN, by rw [pSend_nil hP.len]; exact hS, fun _ _ _ => rfl⟩
  · rw [c0]
    refine rw_if_ne_t (tgt := 8) d_Node_work_4 (by decide) (by decide) ?_
    refine rw_aload_n d_Node_work_8 rfl (by first | exact mm_ref_r _ | exact mm_ref_n | exact mm_ref_o _) ?_
    refine rw_callV (kc := 0) (ks := 0) (rest := []) d_Node_work_9 (c_flush hN hS hpa) mW_Node_flush mL_Node_70 mI_Node_flush mE_Node_flush ⟨by decide, by decide⟩ h0 rfl rfl rfl rfl (Nat.le_of_ble_eq_true rfl) (fun r M1 sz1 hq => ?_)
    obtain ⟨rfl, rfl, q1, q2, q3⟩ := hq
    refine rw_stk (st' := []) rfl ?_
    have ep : pWork E n x = (if eL E ((if pFlush x 2 = 1 then pu (pFlush x) 2 0 else pFlush x) 4) = n then (pu (pLead E n (if pFlush x 2 = 1 then pu (pFlush x) 2 0 else pFlush x)).1 3 0, (if pFlush x 2 = 1 then [((1, n, 99, pFlush x 4, 0, 0) : pMsg)] else []) ++ (pLead E n (if pFlush x 2 = 1 then pu (pFlush x) 2 0 else pFlush x)).2) else (pu (if pFlush x 2 = 1 then pu (pFlush x) 2 0 else pFlush x) 3 0, (if pFlush x 2 = 1 then [((1, n, 99, pFlush x 4, 0, 0) : pMsg)] else []) ++ (if (if pFlush x 2 = 1 then pu (pFlush x) 2 0 else pFlush x) 3 = 1 ∧ eL E ((if pFlush x 2 = 1 then pu (pFlush x) 2 0 else pFlush x) 4) ≠ 99 then [((5, n, eL E ((if pFlush x 2 = 1 then pu (pFlush x) 2 0 else pFlush x) 4), (if pFlush x 2 = 1 then pu (pFlush x) 2 0 else pFlush x) 4, (if pFlush x 2 = 1 then pu (pFlush x) 2 0 else pFlush x) 6, (if pFlush x 2 = 1 then pu (pFlush x) 2 0 else pFlush x) 5) : pMsg)] else []))) := by
      rw [pWork, if_neg (by omega)]
    have h30f : ∀ m, m < eN E → pFlush x (30 + m) < 1000000 := fun m hm => by
      have := h30 m hm
      unfold pFlush
      split
      · simp only
        rw [if_neg (by omega), if_neg (by omega), if_neg (by omega), if_neg (by omega)]
        exact this
      · exact this
    obtain ⟨k0, k1, k2, k3, k4⟩ := id q1
    have b2 := k4.2 2 (by omega)
    generalize pFlush x = x1 at *
    refine rw_aload_n d_Node_work_12 rfl (by first | exact mm_ref_r _ | exact mm_ref_n | exact mm_ref_o _) ?_
    refine rw_get d_Node_work_13 fF_Node_79 k0 rfl ?_
    rcases (show x1 2 = 0 ∨ x1 2 = 1 by omega) with c2 | c2
    · rw [c2]
      refine rw_if_eq_t (tgt := 47) d_Node_work_16 (by decide) (rfl) ?_
      have hne : ¬ x1 2 = 1 := by omega
      simp only [if_neg hne, List.nil_append] at ep
      have e1 : (pWork E n x).1 = (if eL E (x1 4) = n then pu (pLead E n x1).1 3 0 else pu x1 3 0) := by
        rw [ep]
        split <;> rfl
      have e2 : (pWork E n x).2 = (if eL E (x1 4) = n then (pLead E n x1).2 else if x1 3 = 1 ∧ eL E (x1 4) ≠ 99 then [((5, n, eL E (x1 4), x1 4, x1 6, x1 5) : pMsg)] else []) := by
        rw [ep]
        split <;> rfl
      rw [e1, e2]
      have := work_tail (l := l) (sz := sz1) (M := M) (h := []) (post := post) q1 (by rw [pSend_nil hP.len]; exact q2) q3 hpa hn h30f
      rw [List.nil_append] at this
      exact this
    · rw [c2]
      refine rw_if_eq_f (tgt := 47) d_Node_work_16 (by decide) (by decide) ?_
      refine rw_aload_n d_Node_work_19 rfl (by first | exact mm_ref_r _ | exact mm_ref_n | exact mm_ref_o _) ?_
      refine rw_get d_Node_work_20 fF_Node_33 k0 rfl ?_
      refine rw_kind (i := 1) (by decide) fS_Node_195 d_Node_work_23 ?_
      refine rw_aload_n d_Node_work_26 rfl (by first | exact mm_ref_r _ | exact mm_ref_n | exact mm_ref_o _) ?_
      refine rw_get d_Node_work_27 fF_Node_25 k0 rfl ?_
      refine rw_iconst (v := (-1)) d_Node_work_30 (by decide) ?_
      refine rw_aload_n d_Node_work_31 rfl (by first | exact mm_ref_r _ | exact mm_ref_n | exact mm_ref_o _) ?_
      refine rw_get d_Node_work_32 fF_Node_12 k0 rfl ?_
      refine rw_get d_Node_work_35 fF_Node_103 k1.1 rfl ?_
      refine rw_stk (st' := [.int (nI (x1 4)), .int (gI 99), .int (gI n), .ref (gad G 1), .ref p]) (by rw [← egn]; rfl) ?_
      refine rw_callV (kc := 0) (ks := 0) (rest := []) d_Node_work_38 (c_send (k := 1) (f := n) (t := 99) (e := x1 4) q2.1) mW_Post_send mL_Node_136 mI_Post_send mE_Post_send ⟨by decide, by decide⟩ q2.1.choose_spec.choose_spec.choose_spec.1 rfl rfl rfl rfl (Nat.le_of_ble_eq_true rfl) (fun r M2 sz2 hq => ?_)
      have hpl2 := hq.plain (by omega)
      obtain ⟨rfl, y1, j, hj, rfl, -⟩ := hq
      have hN2 := q1.kept (M' := M2) (fun y z1 z2 => y1 y (by omega))
      have hS2 := q2.sent hpl2 y1
      refine rw_stk (st' := [.ref (p + 3 + 5 * j)]) rfl ?_
      refine rw_pop d_Node_work_41 rfl ?_
      refine rw_aload_n d_Node_work_42 rfl (by first | exact mm_ref_r _ | exact mm_ref_n | exact mm_ref_o _) ?_
      refine rw_iconst (v := 0) d_Node_work_43 (by decide) ?_
      refine rw_put d_Node_work_44 (fP_Node_79 _) hN2.1 (Nat.le_of_ble_eq_true rfl) (by first | rfl | assumption | decide) (by first | rfl | assumption | decide) ?_
      have hF4 : ∀ e1, Fr M2 (mup M2 a e1) a 15 := fun e1 => Fr.mup Fr.rf (by omega) (by omega)
      simp only [if_pos c2] at ep
      have e1 : (pWork E n x).1 = (if eL E (pu x1 2 0 4) = n then pu (pLead E n (pu x1 2 0)).1 3 0 else pu (pu x1 2 0) 3 0) := by
        rw [ep]
        split <;> rfl
      have e2 : (pWork E n x).2 = [((1, n, 99, x1 4, 0, 0) : pMsg)] ++ (if eL E (pu x1 2 0 4) = n then (pLead E n (pu x1 2 0)).2 else if pu x1 2 0 3 = 1 ∧ eL E (pu x1 2 0 4) ≠ 99 then [((5, n, eL E (pu x1 2 0 4), pu x1 2 0 4, pu x1 2 0 6, pu x1 2 0 5) : pMsg)] else []) := by
        rw [ep]
        split <;> rfl
      rw [e1, e2]
      exact work_tail (h := [((1, n, 99, x1 4, 0, 0) : pMsg)]) (hN2.flag (f := 2) (v := 0) (by omega) (by omega) rfl) (hS2.node hN2 hpa (hF4 _)) (q3.trans ((Fr2.of0 y1).trans (Fr2.of1 (hF4 _)))) hpa hn (fun m hm => by rw [pu_ne _ _ (by omega)]; exact h30f m hm)
end WORK
