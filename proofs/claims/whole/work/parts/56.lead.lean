/-! Node: lead, work. -/
theorem pPrep_hi (E : pE) (n : Nat) (x : pN) (j : Nat) (h : j ≠ 10) (h2 : j ≠ 11) : (pPrep E n x).1 j = x j := by
  unfold pPrep
  split
  · rfl
  · split
    · rfl
    · split
      · simp only
        rw [if_neg h, if_neg h2]
      · rfl
theorem pDo_hi (E : pE) (n : Nat) (x : pN) (j : Nat) (h : j ≠ 5) (h2 : j ≠ 1) : (pDo E n x).1 j = x j := by
  unfold pDo
  split
  · simp only
    rw [if_neg h, if_neg h2]
  · rfl
section LEAD4
variable {l : Launch} {G : mm_G} {sz : Nat} {ca : Nat → Nat} {cm : Nat → pCm} {g : Nat} {E : pE} {pl p a n : Nat} {x : pN} {post : List pMsg}
def pGuides (E : pE) (n : Nat) (x : pN) (k : Nat) : List pMsg := (List.range k).flatMap (fun m => if m = n then [] else pGuide E n x m)
theorem pGuides_succ (E : pE) (n : Nat) (x : pN) (k : Nat) : pGuides E n x (k + 1) = pGuides E n x k ++ (if k = n then [] else pGuide E n x k) := by
  unfold pGuides
  rw [List.range_succ, List.flatMap_append]
  simp
theorem lead_loop {M : mm_M} (hpa : p + 328 ≤ a) (hn : n < eN E) (h30 : ∀ m, m < eN E → x (30 + m) < 1000000) : ∀ (m k : Nat) (M1 : mm_M), m + k = eN E → NdP M1 ca cm g E pl p a n x → SyP G M1 ca cm g E pl p (pSend post (pGuides E n x k)) → Fr2 M M1 p a →
    RW l G Y_Node_lead (rm 5) (mm_Z G (rm 5) (NdQ G M sz ca cm g E pl p a n x (pSend post (pGuides E n x (eN E))))) 0 0 61 [(0, .ref a), (1, .int (nI k))] [] M1 sz := by
  intro m
  induction m with
  | zero =>
    intro k M1 hk hN hS hF
    obtain ⟨h0, h1, h2, h3, h4⟩ := id hN
    have hpl := hS.2.2.1
    have hN7 := hS.2.2.2.2.1
    have : k = eN E := by omega
    rw [this] at hS ⊢
    refine rw_iload_n d_Node_lead_61 rfl ?_
    refine rw_aload_n d_Node_lead_62 rfl (by first | exact mm_ref_r _ | exact mm_ref_n | exact mm_ref_o _) ?_
    refine rw_get d_Node_lead_63 fF_Node_29 h0 rfl ?_
    refine rw_get d_Node_lead_66 fF_Node_39 hpl rfl ?_
    refine rw_icmp_ge_t (tgt := 91) d_Node_lead_69 (by decide) (nI_le (a := eN E) (b := eN E) (by omega) (by omega)) ?_
    exact rw_vret d_Node_lead_91 rfl ⟨rfl, rfl, hN, hS, hF⟩
  | succ m ih =>
    intro k M1 hk hN hS hF
    obtain ⟨h0, h1, h2, h3, h4⟩ := id hN
    have hpl := hS.2.2.1
    have hN7 := hS.2.2.2.2.1
    have next : ∀ M2 : mm_M, NdP M2 ca cm g E pl p a n x → SyP G M2 ca cm g E pl p (pSend post (pGuides E n x (k + 1))) → Fr2 M M2 p a → RW l G Y_Node_lead (rm 5) (mm_Z G (rm 5) (NdQ G M sz ca cm g E pl p a n x (pSend post (pGuides E n x (eN E))))) 0 0 85 [(0, .ref a), (1, .int (nI k))] [] M2 sz := by
      intro M2 y1 y2 y3
      refine rw_iinc d_Node_lead_85 (by decide) rfl rfl rfl ?_
      refine rw_lv (lv' := [(0, .ref a), (1, .int (nI (k + 1)))]) (by rw [← nI_1]; intro q hq; simp at hq; rcases hq with rfl | rfl <;> rfl) ?_
      refine rw_goto (tgt := 61) d_Node_lead_88 (by decide) ?_
      exact ih (k + 1) M2 (by omega) y1 y2 y3
    refine rw_iload_n d_Node_lead_61 rfl ?_
    refine rw_aload_n d_Node_lead_62 rfl (by first | exact mm_ref_r _ | exact mm_ref_n | exact mm_ref_o _) ?_
    refine rw_get d_Node_lead_63 fF_Node_29 h0 rfl ?_
    refine rw_get d_Node_lead_66 fF_Node_39 hpl rfl ?_
    refine rw_icmp_ge_f (tgt := 91) d_Node_lead_69 (by decide) (nI_ge (a := k) (b := eN E) (by omega) (by omega)) ?_
    refine rw_iload_n d_Node_lead_72 rfl ?_
    refine rw_aload_n d_Node_lead_73 rfl (by first | exact mm_ref_r _ | exact mm_ref_n | exact mm_ref_o _) ?_
    refine rw_get d_Node_lead_74 fF_Node_25 h0 rfl ?_
    by_cases c : k = n
    · refine rw_icmp_eq_t (tgt := 85) d_Node_lead_77 (by decide) (by rw [c]) ?_
      exact next M1 hN (by rw [pGuides_succ, if_pos c, List.append_nil]; exact hS) hF
    · refine rw_icmp_eq_f (tgt := 85) d_Node_lead_77 (by decide) (fun z => c ((nI_eq (by omega) (by omega)).mp z)) ?_
      refine rw_aload_n d_Node_lead_80 rfl (by first | exact mm_ref_r _ | exact mm_ref_n | exact mm_ref_o _) ?_
      refine rw_iload_n d_Node_lead_81 rfl ?_
      refine rw_callV (kc := 0) (ks := 0) (rest := []) d_Node_lead_82 (c_guide (m := k) hN hS hpa hn (by omega) (h30 k (by omega))) mW_Node_guide mL_Node_212 mI_Node_guide mE_Node_guide ⟨by decide, by decide⟩ h0 rfl rfl rfl rfl (Nat.le_of_ble_eq_true rfl) (fun r M2 sz2 hq => ?_)
      obtain ⟨rfl, rfl, q1, q2, q3⟩ := hq
      refine rw_stk (st' := []) rfl ?_
      refine next M2 q1 ?_ (hF.trans q3)
      rw [pSend_app] at q2
      rw [pGuides_succ, if_neg c]
      exact q2
theorem c_lead {M : mm_M} (hN : NdP M ca cm g E pl p a n x) (hS : SyP G M ca cm g E pl p post) (hpa : p + 328 ≤ a) (hn : n < eN E) (h30 : ∀ m, m < eN E → x (30 + m) < 1000000) : CT l G Y_Node_lead ds_Node_lead (rm 5) [.ref a] M sz (NdQ G M sz ca cm g E pl p a n (pLead E n x).1 (pSend post (pLead E n x).2)) := by
  obtain ⟨h0, h1, h2, h3, h4⟩ := id hN
  obtain ⟨hP, hA, hpl, hlt, hN7, hCN, -, hg, hM64, -⟩ := id hS
  obtain ⟨hh, hc0⟩ := h1.2.obj
  obtain ⟨hv9, vv9, av9, lv9, hr9, x5b, x6b, wf9, c4, c59⟩ := id h1.2
  refine CT.of (by decide) (Nat.le_of_ble_eq_true rfl) ?_
  refine rw_aload_n d_Node_lead_0 rfl (by first | exact mm_ref_r _ | exact mm_ref_n | exact mm_ref_o _) ?_
  refine rw_get d_Node_lead_1 fF_Node_47 h0 rfl ?_
  refine rw_aload_n d_Node_lead_4 rfl (by first | exact mm_ref_r _ | exact mm_ref_n | exact mm_ref_o _) ?_
  refine rw_get d_Node_lead_5 fF_Node_25 h0 rfl ?_
  refine rw_aload_n d_Node_lead_8 rfl (by first | exact mm_ref_r _ | exact mm_ref_n | exact mm_ref_o _) ?_
  refine rw_get d_Node_lead_9 fF_Node_12 h0 rfl ?_
  refine rw_get d_Node_lead_12 fF_Node_146 h1.1 rfl ?_
  refine rw_get d_Node_lead_15 fF_Node_204 hc0 rfl ?_
  refine rw_aload_n d_Node_lead_18 rfl (by first | exact mm_ref_r _ | exact mm_ref_n | exact mm_ref_o _) ?_
  refine rw_get d_Node_lead_19 fF_Node_12 h0 rfl ?_
  refine rw_get d_Node_lead_22 fF_Node_146 h1.1 rfl ?_
  refine rw_get d_Node_lead_25 fF_Node_205 hc0 rfl ?_
  refine rw_callV (kc := 0) (ks := 0) (rest := []) d_Node_lead_28 (c_note (n := n) (b := x 6) (d := x 5) hN7 hn h3) mW_Reports_note mL_Node_130 mI_Reports_note mE_Reports_note ⟨by decide, by decide⟩ h3.choose_spec.choose_spec.choose_spec.1.1 rfl rfl rfl rfl (Nat.le_of_ble_eq_true rfl) (fun r M1 sz1 hq => ?_)
  obtain ⟨rfl, rfl, q1, q2⟩ := hq
  refine rw_stk (st' := []) rfl ?_
  have lo : ∀ j, j < 20 → pNote x n (x 6) (x 5) j = x j := fun j hj => by
    unfold pNote
    rw [if_neg (by omega), if_neg (by omega), if_neg (by omega)]
  have hF1 : Fr M M1 a 15 := q2.wider (by omega) (by omega)
  have hN1 : NdP M1 ca cm g E pl p a n (pNote x n (x 6) (x 5)) := by
    refine ⟨?_, ?_, ?_, q1, ?_⟩
    · rw [q2 _ (by omega), h0]
      simp only [ndO]
      rw [lo 0 (by omega), lo 1 (by omega), lo 2 (by omega), lo 3 (by omega)]
    · rw [lo 4 (by omega), lo 5 (by omega), lo 6 (by omega)]
      exact h1.kept (fun y z1 z2 => q2 y (by omega))
    · rw [lo 7 (by omega), lo 8 (by omega), lo 9 (by omega)]
      exact h2.kept (fun y z1 z2 => q2 y (by omega))
    · refine ⟨fun j => ?_, fun j hj => ?_⟩
      · unfold pNote
        (repeat' split) <;> first | omega | exact h4.1 _
      · unfold pNote
        (repeat' split) <;> first | omega | exact h4.2 j hj
  have hS1 := hS.node hN hpa hF1
  have h30n : ∀ m, m < eN E → pNote x n (x 6) (x 5) (30 + m) < 1000000 := fun m hm => by
    unfold pNote
    have := h30 m hm
    (repeat' split) <;> omega
  have e10 : pNote x n (x 6) (x 5) 10 = x 10 := lo 10 (by omega)
  have hlead : pLead E n x = ((pDo E n (pPrep E n (pNote x n (x 6) (x 5))).1).1, (pPrep E n (pNote x n (x 6) (x 5))).2 ++ (pDo E n (pPrep E n (pNote x n (x 6) (x 5))).1).2 ++ pGuides E n (pDo E n (pPrep E n (pNote x n (x 6) (x 5))).1).1 (eN E)) := rfl
  rw [hlead]
  generalize pNote x n (x 6) (x 5) = x1 at hN1 h30n e10 ⊢
  have stepC : ∀ (M2 : mm_M) (y : pN) (ms : List pMsg), NdP M2 ca cm g E pl p a n y → SyP G M2 ca cm g E pl p (pSend post ms) → Fr2 M M2 p a → (∀ m, m < eN E → y (30 + m) < 1000000) → RW l G Y_Node_lead (rm 5) (mm_Z G (rm 5) (NdQ G M sz1 ca cm g E pl p a n y (pSend post (ms ++ pGuides E n y (eN E))))) 0 0 59 [(0, .ref a)] [] M2 sz1 := by
    intro M2 y ms y1 y2 y3 y4
    refine rw_iconst (v := 0) d_Node_lead_59 (by decide) ?_
    refine rw_istore_n d_Node_lead_60 (by decide) rfl ?_
    refine rw_lv (lv' := [(0, .ref a), (1, .int (nI 0))]) (by intro q hq; simp at hq; rcases hq with rfl | rfl <;> rfl) ?_
    have := lead_loop (l := l) (sz := sz1) (M := M) (post := pSend post ms) hpa hn y4 (eN E) 0 M2 (by omega) y1 (by rw [show pGuides E n y 0 = [] from rfl, pSend_nil y2.1.len]; exact y2) y3
    rw [pSend_app] at this
    exact this
  have stepB : ∀ (M2 : mm_M) (y : pN) (ms : List pMsg), NdP M2 ca cm g E pl p a n y → SyP G M2 ca cm g E pl p (pSend post ms) → Fr2 M M2 p a → (∀ m, m < eN E → y (30 + m) < 1000000) → RW l G Y_Node_lead (rm 5) (mm_Z G (rm 5) (NdQ G M sz1 ca cm g E pl p a n (pDo E n y).1 (pSend post (ms ++ (pDo E n y).2 ++ pGuides E n (pDo E n y).1 (eN E))))) 0 0 45 [(0, .ref a)] [] M2 sz1 := by
    intro M2 y ms y1 y2 y3 y4
    obtain ⟨k0, k1, k2, k3, k4⟩ := id y1
    obtain ⟨hd2, en2, dn2, ⟨r0, r1, r2, r3⟩, k3b⟩ := id k3
    have hb := k4.2 10 (by omega)
    refine rw_aload_n d_Node_lead_45 rfl (by first | exact mm_ref_r _ | exact mm_ref_n | exact mm_ref_o _) ?_
    refine rw_get d_Node_lead_46 fF_Node_47 k0 rfl ?_
    refine rw_get d_Node_lead_49 fF_Node_166 r0 rfl ?_
    rcases (show y 10 = 0 ∨ y 10 = 1 by omega) with c | c
    · rw [c]
      refine rw_if_eq_t (tgt := 59) d_Node_lead_52 (by decide) (rfl) ?_
      have ep : pDo E n y = (y, []) := by rw [pDo, if_neg (by omega)]
      rw [show (pDo E n y).1 = y by rw [ep], show (pDo E n y).2 = [] by rw [ep], List.append_nil]
      exact stepC M2 y ms y1 y2 y3 y4
    · rw [c]
      refine rw_if_eq_f (tgt := 59) d_Node_lead_52 (by decide) (by decide) ?_
      refine rw_aload_n d_Node_lead_55 rfl (by first | exact mm_ref_r _ | exact mm_ref_n | exact mm_ref_o _) ?_
      refine rw_callV (kc := 0) (ks := 0) (rest := []) d_Node_lead_56 (c_agreedDo y1 y2 hpa hn c) mW_Node_doWhatIsAgreed mL_Node_209 mI_Node_doWhatIsAgreed mE_Node_doWhatIsAgreed ⟨by decide, by decide⟩ k0 rfl rfl rfl rfl (Nat.le_of_ble_eq_true rfl) (fun r M3 sz3 hq => ?_)
      obtain ⟨rfl, rfl, z1, z2, z3⟩ := hq
      refine rw_stk (st' := []) rfl ?_
      rw [pSend_app] at z2
      exact stepC M3 _ _ z1 z2 (y3.trans z3) (fun m hm => by rw [pDo_hi _ _ _ _ (by omega) (by omega)]; exact y4 m hm)
  obtain ⟨k0, k1, k2, k3, k4⟩ := id hN1
  obtain ⟨hd2, en2, dn2, ⟨r0, r1, r2, r3⟩, k3b⟩ := id k3
  have hb := k4.2 10 (by omega)
  refine rw_aload_n d_Node_lead_31 rfl (by first | exact mm_ref_r _ | exact mm_ref_n | exact mm_ref_o _) ?_
  refine rw_get d_Node_lead_32 fF_Node_47 k0 rfl ?_
  refine rw_get d_Node_lead_35 fF_Node_166 r0 rfl ?_
  rcases (show x1 10 = 0 ∨ x1 10 = 1 by omega) with c | c
  · rw [c]
    refine rw_if_ne_f (tgt := 45) d_Node_lead_38 (by decide) (by decide) ?_
    refine rw_aload_n d_Node_lead_41 rfl (by first | exact mm_ref_r _ | exact mm_ref_n | exact mm_ref_o _) ?_
    refine rw_callV (kc := 0) (ks := 0) (rest := []) d_Node_lead_42 (c_prepare hN1 hS1 hpa hn (by omega)) mW_Node_prepare mL_Node_206 mI_Node_prepare mE_Node_prepare ⟨by decide, by decide⟩ k0 rfl rfl rfl rfl (Nat.le_of_ble_eq_true rfl) (fun r M3 sz3 hq => ?_)
    obtain ⟨rfl, rfl, z1, z2, z3⟩ := hq
    refine rw_stk (st' := []) rfl ?_
    exact stepB M3 _ _ z1 z2 ((Fr2.of1 hF1).trans z3) (fun m hm => by rw [pPrep_hi _ _ _ _ (by omega) (by omega)]; exact h30n m hm)
  · rw [c]
    refine rw_if_ne_t (tgt := 45) d_Node_lead_38 (by decide) (by decide) ?_
    have ep : pPrep E n x1 = (x1, []) := by rw [pPrep, if_pos c]
    have := stepB M1 x1 [] hN1 (by rw [pSend_nil hP.len]; exact hS1) (Fr2.of1 hF1) h30n
    rw [List.nil_append] at this
    rw [ep]
    exact this
end LEAD4
