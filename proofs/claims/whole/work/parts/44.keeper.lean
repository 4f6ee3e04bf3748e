/-! Commands lie apart from the post; sends one behind another; the keeper of maps. -/
theorem PsP.apart {G : mm_G} {M : mm_M} {ca : Nat → Nat} {cm : Nat → pCm} {g : Nat} {E : pE} {p i : Nat} {post : List pMsg} (hP : PsP G M ca cm g E p post) (hA : CmA M ca cm g) (hi : i < g) : ca i < p ∨ p + 328 ≤ ca i := by
  have e := (hA i hi).2
  obtain ⟨sl, f, ord, h1, h2, h3, h4, h5, h6, h7, h8, h9⟩ := hP
  rcases Nat.lt_or_ge (ca i) p with q | q
  · exact Or.inl q
  · right
    rcases Nat.lt_or_ge (ca i) (p + 328) with q2 | q2
    · exfalso
      rcases (show ca i = p ∨ ca i = p + 1 ∨ ca i = p + 2 ∨ p + 3 ≤ ca i by omega) with z | z | z | z
      · rw [z, h1] at e
        cases e
      · rw [z, h2] at e
        cases e
      · rw [z, h3] at e
        cases e
      · obtain ⟨kv, f, t, e0, s, en, dn, nu, an, cv, d, b, w1, w2, ⟨hh, v, a2, lg, ⟨r0, r1, r2, r3⟩, -⟩⟩ := h8 ((ca i - p - 3) / 5) (by omega)
        have hx : ca i = p + 3 + 5 * ((ca i - p - 3) / 5) + (ca i - p - 3) % 5 := by omega
        have hr : (ca i - p - 3) % 5 < 5 := Nat.mod_lt _ (by omega)
        generalize (ca i - p - 3) / 5 = j at *
        generalize (ca i - p - 3) % 5 = r at *
        rcases (show r = 0 ∨ r = 1 ∨ r = 2 ∨ r = 3 ∨ r = 4 by omega) with rfl | rfl | rfl | rfl | rfl
        · rw [hx, show p + 3 + 5 * j + 0 = p + 3 + 5 * j from rfl, w1] at e
          cases e
        · rw [hx, r0] at e
          cases e
        · rw [hx, show p + 3 + 5 * j + 2 = p + 3 + 5 * j + 1 + 1 from rfl, r1] at e
          cases e
        · rw [hx, show p + 3 + 5 * j + 3 = p + 3 + 5 * j + 1 + 2 from rfl, r2] at e
          cases e
        · rw [hx, show p + 3 + 5 * j + 4 = p + 3 + 5 * j + 1 + 3 from rfl, r3] at e
          cases e
    · exact q2
theorem CmA.post {G : mm_G} {M M' : mm_M} {ca : Nat → Nat} {cm : Nat → pCm} {g : Nat} {E : pE} {p : Nat} {post : List pMsg} (hA : CmA M ca cm g) (hP : PsP G M ca cm g E p post) (hF : Fr M M' p 328) : CmA M' ca cm g := hA.kept (fun _ hi => hF _ (hP.apart hA hi))
theorem pSend_app (post a b : List pMsg) : pSend (pSend post a) b = pSend post (a ++ b) := by
  unfold pSend
  rw [← List.append_assoc, List.take_append, List.take_append (l₁ := post ++ a), List.take_take, Nat.min_self, List.length_take]
  congr 2
  omega
theorem pSend_nil {post : List pMsg} (h : post.length ≤ 64) : pSend post [] = post := by
  unfold pSend
  rw [List.append_nil, List.take_of_length_le h]
theorem PsP.len {G : mm_G} {M : mm_M} {ca : Nat → Nat} {cm : Nat → pCm} {g : Nat} {E : pE} {p : Nat} {post : List pMsg} (hP : PsP G M ca cm g E p post) : post.length ≤ 64 := by
  obtain ⟨sl, f, ord, h1, h2, h3, h4, h5, h6, h7, h8, h9⟩ := hP
  exact h7
/-- the maps that proclaim sends, to the nodes below n -/
def pProc (ep : Nat) (hd : Nat → Nat) : Nat → List pMsg
  | 0 => []
  | n + 1 => pProc ep hd n ++ (if hd n < ep then [(0, 99, n, ep, 0, 0)] else [])
section KEEPER
variable {l : Launch} {G : mm_G} {sz : Nat} {ca : Nat → Nat} {cm : Nat → pCm} {g : Nat} {E : pE}
def KpP (M : mm_M) (E : pE) (k pl p ep : Nat) (hd : Nat → Nat) : Prop := ∃ f, M k = some (.inr (5, [.ref pl, .ref p, .ref (k + 1), .int (nI ep), .int (nI (E.2.2 ep)), .int (gI (eL E ep))])) ∧ M (k + 1) = some (aI (eN E) f) ∧ ∀ n, n < eN E → f n = nI (hd n)
theorem KpP.kept {M M' : mm_M} {k pl p ep : Nat} {hd : Nat → Nat} (h : KpP M E k pl p ep hd) (hq : ∀ q, k ≤ q → q < k + 2 → M' q = M q) : KpP M' E k pl p ep hd := by
  obtain ⟨f, h1, h2, h3⟩ := h
  exact ⟨f, (hq _ (by omega) (by omega)).trans h1, (hq _ (by omega) (by omega)).trans h2, h3⟩
/-- what sends alone leave -/
def SnQ (G : mm_G) (M : mm_M) (sz : Nat) (ca : Nat → Nat) (cm : Nat → pCm) (g : Nat) (E : pE) (p : Nat) (post : List pMsg) : Option Value → mm_M → Nat → Prop := fun r M' sz' => r = none ∧ sz' = sz ∧ PsP G M' ca cm g E p post ∧ Fr M M' p 328
theorem proclaim_loop {M : mm_M} {k pl p ep : Nat} {hd : Nat → Nat} {post : List pMsg} (hN : eN E < 7) (hep : ep < 1000000) (hhd : ∀ n, n < eN E → hd n < 1000000) (hpl : M pl = some (plO (eN E) (eC E))) (hpp : pl < p) (hkp : p + 328 ≤ k) (hK : KpP M E k pl p ep hd) :
    ∀ (m n : Nat) (M1 : mm_M), m + n = eN E → PsP G M1 ca cm g E p (pSend post (pProc ep hd n)) → Fr M M1 p 328 →
    RW l G Y_MapKeeper_proclaim (rm 2) (mm_Z G (rm 2) (SnQ G M sz ca cm g E p (pSend post (pProc ep hd (eN E))))) 0 0 2 [(0, .ref k), (1, .int (nI n))] [] M1 sz := by
  intro m
  induction m with
  | zero =>
    intro n M1 hn hP hF
    have hn2 : n = eN E := by omega
    obtain ⟨f, k0, k1, k2⟩ := hK.kept (M' := M1) (fun q h1 h2 => hF q (by omega))
    have hpl1 := (hF pl (by omega)).trans hpl
    rw [hn2] at hP ⊢
    refine rw_iload_n d_MapKeeper_proclaim_2 rfl ?_
    refine rw_aload_n d_MapKeeper_proclaim_3 rfl (by first | exact mm_ref_r _ | exact mm_ref_n | exact mm_ref_o _) ?_
    refine rw_get d_MapKeeper_proclaim_4 fF_MapKeeper_15 k0 rfl ?_
    refine rw_get d_MapKeeper_proclaim_7 fF_MapKeeper_39 hpl1 rfl ?_
    refine rw_icmp_ge_t (tgt := 55) d_MapKeeper_proclaim_10 (by decide) (nI_le (a := eN E) (b := eN E) (by omega) (by omega)) ?_
    exact rw_vret d_MapKeeper_proclaim_55 rfl ⟨rfl, rfl, hP, hF⟩
  | succ m ih =>
    intro n M1 hn hP hF
    obtain ⟨f, k0, k1, k2⟩ := hK.kept (M' := M1) (fun q h1 h2 => hF q (by omega))
    have hpl1 := (hF pl (by omega)).trans hpl
    have hhn := hhd n (by omega)
    refine rw_iload_n d_MapKeeper_proclaim_2 rfl ?_
    refine rw_aload_n d_MapKeeper_proclaim_3 rfl (by first | exact mm_ref_r _ | exact mm_ref_n | exact mm_ref_o _) ?_
    refine rw_get d_MapKeeper_proclaim_4 fF_MapKeeper_15 k0 rfl ?_
    refine rw_get d_MapKeeper_proclaim_7 fF_MapKeeper_39 hpl1 rfl ?_
    refine rw_icmp_ge_f (tgt := 55) d_MapKeeper_proclaim_10 (by decide) (nI_ge (a := n) (b := eN E) (by omega) (by omega)) ?_
    refine rw_aload_n d_MapKeeper_proclaim_13 rfl (by first | exact mm_ref_r _ | exact mm_ref_n | exact mm_ref_o _) ?_
    refine rw_get d_MapKeeper_proclaim_14 fF_MapKeeper_42 k0 rfl ?_
    refine rw_iload_n d_MapKeeper_proclaim_17 rfl ?_
    refine rw_iald d_MapKeeper_proclaim_18 k1 (vp_in_nI (n := n) (by omega) (by omega)) ?_
    refine rw_aload_n d_MapKeeper_proclaim_19 rfl (by first | exact mm_ref_r _ | exact mm_ref_n | exact mm_ref_o _) ?_
    refine rw_get d_MapKeeper_proclaim_20 fF_MapKeeper_9 k0 rfl ?_
    rw [nI_c (by omega), k2 n (by omega)]
    by_cases q : hd n < ep
    · refine rw_icmp_ge_f (tgt := 49) d_MapKeeper_proclaim_23 (by decide) (nI_ge q (by omega)) ?_
      refine rw_aload_n d_MapKeeper_proclaim_26 rfl (by first | exact mm_ref_r _ | exact mm_ref_n | exact mm_ref_o _) ?_
      refine rw_get d_MapKeeper_proclaim_27 fF_MapKeeper_19 k0 rfl ?_
      refine rw_kind (i := 0) (by decide) fS_MapKeeper_49 d_MapKeeper_proclaim_30 ?_
      refine rw_iconst (v := (-1)) d_MapKeeper_proclaim_33 (by decide) ?_
      refine rw_iload_n d_MapKeeper_proclaim_34 rfl ?_
      refine rw_aload_n d_MapKeeper_proclaim_35 rfl (by first | exact mm_ref_r _ | exact mm_ref_n | exact mm_ref_o _) ?_
      refine rw_get d_MapKeeper_proclaim_36 fF_MapKeeper_9 k0 rfl ?_
      refine rw_stk (st' := [.int (nI ep), .int (gI n), .int (gI 99), .ref (gad G 0), .ref p]) (by rw [gI, if_neg (by omega)]; rfl) ?_
      refine rw_callV (kc := 0) (ks := 0) (rest := []) d_MapKeeper_proclaim_39 (c_send (k := 0) (f := 99) (t := n) (e := ep) hP) mW_Post_send mL_MapKeeper_55 mI_Post_send mE_Post_send ⟨by decide, by decide⟩ hP.choose_spec.choose_spec.choose_spec.1 rfl rfl rfl rfl (Nat.le_of_ble_eq_true rfl) (fun r M2 sz2 hq => ?_)
      obtain ⟨rfl, q1, j, hj, rfl, ⟨s, en, dn, nu, an, cv, d, b, w1, w2, w3⟩, q2⟩ := hq
      refine rw_stk (st' := [.ref (p + 3 + 5 * j)]) rfl ?_
      refine rw_aload_n d_MapKeeper_proclaim_42 rfl (by first | exact mm_ref_r _ | exact mm_ref_n | exact mm_ref_o _) ?_
      refine rw_get d_MapKeeper_proclaim_43 fF_MapKeeper_29 ((q1 k (by omega)).trans k0) rfl ?_
      refine rw_put d_MapKeeper_proclaim_46 (fP_MapKeeper_61 _) w1 (Nat.le_of_ble_eq_true rfl) (by first | rfl | assumption | decide) (by first | rfl | decide) ?_
      have hF3 := Fr.mup (x := p + 3 + 5 * j) (e := .inr (3, [.ref (gad G 0), .int (gI 99), .int (gI n), .int (nI ep), .int (nI (E.2.2 ep)), .int en, .int dn, .int nu, .int an, cv, .ref (p + 3 + 5 * j + 1)])) (hF.trans q1) (by omega) (by omega)
      have hP3 := q2 (mup M2 (p + 3 + 5 * j) (.inr (3, [.ref (gad G 0), .int (gI 99), .int (gI n), .int (nI ep), .int (nI (E.2.2 ep)), .int en, .int dn, .int nu, .int an, cv, .ref (p + 3 + 5 * j + 1)]))) (0, 99, n, ep, 0, 0) (Fr.mup Fr.rf (by omega) (by omega)) ⟨nI (E.2.2 ep), en, dn, nu, an, cv, d, b, mup_self _ _ _, w2, w3.kept (fun x y1 y2 => mup_ne _ _ (by omega)), fun _ => rfl, (fun z => by cases z), (fun z => by cases z), (fun z => by cases z), (fun z => by cases z), (fun z => by cases z)⟩
      rw [pSend_app] at hP3
      have e1 : pProc ep hd (n + 1) = pProc ep hd n ++ [(0, 99, n, ep, 0, 0)] := by rw [pProc, if_pos q]
      rw [← e1] at hP3
      refine rw_iinc d_MapKeeper_proclaim_49 (by decide) rfl rfl rfl ?_
      refine rw_lv (lv' := [(0, .ref k), (1, .int (nI (n + 1)))]) (by rw [← nI_1]; intro q hq; simp at hq; rcases hq with rfl | rfl <;> rfl) ?_
      refine rw_goto (tgt := 2) d_MapKeeper_proclaim_52 (by decide) ?_
      exact ih (n + 1) _ (by omega) hP3 hF3
    · refine rw_icmp_ge_t (tgt := 49) d_MapKeeper_proclaim_23 (by decide) (nI_le (by omega) (by omega)) ?_
      refine rw_iinc d_MapKeeper_proclaim_49 (by decide) rfl rfl rfl ?_
      refine rw_lv (lv' := [(0, .ref k), (1, .int (nI (n + 1)))]) (by rw [← nI_1]; intro q hq; simp at hq; rcases hq with rfl | rfl <;> rfl) ?_
      refine rw_goto (tgt := 2) d_MapKeeper_proclaim_52 (by decide) ?_
      have e1 : pProc ep hd (n + 1) = pProc ep hd n := by rw [pProc, if_neg q, List.append_nil]
      exact ih (n + 1) _ (by omega) (by rw [e1]; exact hP) hF
theorem c_proclaim {M : mm_M} {k pl p ep : Nat} {hd : Nat → Nat} {post : List pMsg} (hN : eN E < 7) (hep : ep < 1000000) (hhd : ∀ n, n < eN E → hd n < 1000000) (hpl : M pl = some (plO (eN E) (eC E))) (hpp : pl < p) (hkp : p + 328 ≤ k) (hK : KpP M E k pl p ep hd) (hP : PsP G M ca cm g E p post) :
    CT l G Y_MapKeeper_proclaim ds_MapKeeper_proclaim (rm 2) [.ref k] M sz (SnQ G M sz ca cm g E p (pSend post (pProc ep hd (eN E)))) := by
  refine CT.of (by decide) (Nat.le_of_ble_eq_true rfl) ?_
  refine rw_iconst (v := 0) d_MapKeeper_proclaim_0 (by decide) ?_
  refine rw_istore_n d_MapKeeper_proclaim_1 (by decide) rfl ?_
  refine rw_lv (lv' := [(0, .ref k), (1, .int (nI 0))]) (by intro q hq; simp at hq; rcases hq with rfl | rfl <;> rfl) ?_
  exact proclaim_loop hN hep hhd hpl hpp hkp hK (eN E) 0 M (by omega) (by rw [pProc, pSend_nil hP.len]; exact hP) Fr.rf
theorem c_kHear {M : mm_M} {k pl p ep q f e : Nat} {hd : Nat → Nat} {kv : Value} {t s en dn nu an : Int32} {cv : Value} (hN : eN E < 7) (hf : f < eN E) (he : e < 1000000) (hhd : ∀ n, n < eN E → hd n < 1000000) (hpl : M pl = some (plO (eN E) (eC E))) (hK : KpP M E k pl p ep hd) (hm : M q = some (msO q kv (gI f) t (nI e) s en dn nu an cv)) :
    CT l G Y_MapKeeper_hear ds_MapKeeper_hear (rm 2) [.ref k, .ref q] M sz (fun r M' sz' => r = none ∧ sz' = sz ∧ KpP M' E k pl p ep (va_up hd f (max (hd f) e)) ∧ ∀ x, x ≠ k + 1 → M' x = M x) := by
  obtain ⟨fa, k0, k1, k2⟩ := id hK
  have hhf := hhd f hf
  have egf : gI f = nI f := by rw [gI, if_neg (by omega)]
  rw [egf] at hm
  refine CT.of (by decide) (Nat.le_of_ble_eq_true rfl) ?_
  refine rw_aload_n d_MapKeeper_hear_0 rfl (by first | exact mm_ref_r _ | exact mm_ref_n | exact mm_ref_o _) ?_
  refine rw_get d_MapKeeper_hear_1 fF_MapKeeper_64 hm rfl ?_
  refine rw_if_lt_f (tgt := 46) d_MapKeeper_hear_4 (by decide) (nI_pos (by omega)) ?_
  refine rw_aload_n d_MapKeeper_hear_7 rfl (by first | exact mm_ref_r _ | exact mm_ref_n | exact mm_ref_o _) ?_
  refine rw_get d_MapKeeper_hear_8 fF_MapKeeper_64 hm rfl ?_
  refine rw_aload_n d_MapKeeper_hear_11 rfl (by first | exact mm_ref_r _ | exact mm_ref_n | exact mm_ref_o _) ?_
  refine rw_get d_MapKeeper_hear_12 fF_MapKeeper_15 k0 rfl ?_
  refine rw_get d_MapKeeper_hear_15 fF_MapKeeper_39 hpl rfl ?_
  refine rw_icmp_ge_f (tgt := 46) d_MapKeeper_hear_18 (by decide) (nI_ge (a := f) (b := eN E) (by omega) (by omega)) ?_
  refine rw_aload_n d_MapKeeper_hear_21 rfl (by first | exact mm_ref_r _ | exact mm_ref_n | exact mm_ref_o _) ?_
  refine rw_get d_MapKeeper_hear_22 fF_MapKeeper_42 k0 rfl ?_
  refine rw_aload_n d_MapKeeper_hear_25 rfl (by first | exact mm_ref_r _ | exact mm_ref_n | exact mm_ref_o _) ?_
  refine rw_get d_MapKeeper_hear_26 fF_MapKeeper_64 hm rfl ?_
  refine rw_aload_n d_MapKeeper_hear_29 rfl (by first | exact mm_ref_r _ | exact mm_ref_n | exact mm_ref_o _) ?_
  refine rw_get d_MapKeeper_hear_30 fF_MapKeeper_42 k0 rfl ?_
  refine rw_aload_n d_MapKeeper_hear_33 rfl (by first | exact mm_ref_r _ | exact mm_ref_n | exact mm_ref_o _) ?_
  refine rw_get d_MapKeeper_hear_34 fF_MapKeeper_64 hm rfl ?_
  refine rw_iald d_MapKeeper_hear_37 k1 (vp_in_nI (n := f) (by omega) (by omega)) ?_
  refine rw_aload_n d_MapKeeper_hear_38 rfl (by first | exact mm_ref_r _ | exact mm_ref_n | exact mm_ref_o _) ?_
  refine rw_get d_MapKeeper_hear_39 fF_MapKeeper_67 hm rfl ?_
  rw [nI_c (by omega), k2 f hf]
  refine rw_callS (kc := 0) (ks := 0) (rest := [.int (nI f), .ref (k + 1)]) d_MapKeeper_hear_42 (c_max (x := nI (hd f)) (y := nI e)) mW_Math_max mL_MapKeeper_68 mS_Math_max ⟨by decide, by decide⟩ rfl rfl (Nat.le_of_ble_eq_true rfl) (fun r M1 sz1 hq => ?_)
  obtain ⟨rfl, rfl, rfl⟩ := hq
  have emx : (if nI e ≤ nI (hd f) then nI (hd f) else nI e) = nI (max (hd f) e) := by
    by_cases z : e ≤ hd f
    · rw [if_pos ((nI_leI (by omega) (by omega)).mpr z), Nat.max_eq_left z]
    · rw [if_neg (fun w => z ((nI_leI (by omega) (by omega)).mp w)), Nat.max_eq_right (by omega)]
  rw [emx]
  refine rw_stk (st' := [.int (nI (max (hd f) e)), .int (nI f), .ref (k + 1)]) rfl ?_
  refine rw_iast d_MapKeeper_hear_45 k1 (vp_in_nI (n := f) (by omega) (by omega)) ?_
  rw [nI_c (by omega)]
  refine rw_vret d_MapKeeper_hear_46 rfl ⟨rfl, rfl, ⟨_, (mup_ne _ _ (by omega)).trans k0, mup_self _ _ _, fun n hn => ?_⟩, fun x hx => mup_ne _ _ hx⟩
  by_cases z : n = f
  · simp [upd, va_up, z]
  · simp [upd, va_up, z, k2 n hn]
theorem c_renew {M : mm_M} {k pl p ep : Nat} {hd : Nat → Nat} {w : Int32} (hN : eN E < 7) (hC : eC E ≤ 3) (hep : ep < 1000000) (hpl : M pl = some (plO (eN E) (eC E))) (hpk : pl ≠ k) (hK : KpP M E k pl p ep hd) (hw : w &&& nI (2 ^ eN E - 1) = nI (E.2.2 (ep + 1))) (hs : E.2.2 (ep + 1) < 64) (hm : eM E (ep + 1) < 64) :
    CT l G Y_MapKeeper_renew ds_MapKeeper_renew (rm 3) [.ref k, .int w] M sz (fun r M' sz' => r = none ∧ sz' = sz ∧ KpP M' E k pl p (ep + 1) hd ∧ ∀ x, x ≠ k → M' x = M x) := by
  obtain ⟨fa, k0, k1, k2⟩ := id hK
  refine CT.of (by decide) (Nat.le_of_ble_eq_true rfl) ?_
  refine rw_aload_n d_MapKeeper_renew_0 rfl (by first | exact mm_ref_r _ | exact mm_ref_n | exact mm_ref_o _) ?_
  refine rw_dup d_MapKeeper_renew_1 rfl ?_
  refine rw_get d_MapKeeper_renew_2 fF_MapKeeper_9 k0 rfl ?_
  refine rw_iconst (v := 1) d_MapKeeper_renew_5 (by decide) ?_
  refine rw_iadd d_MapKeeper_renew_6 ?_
  refine rw_put d_MapKeeper_renew_7 (fP_MapKeeper_9 _) k0 (Nat.le_of_ble_eq_true rfl) (by first | rfl | assumption | decide) (by first | rfl | decide) ?_
  have hp1 : (mup M k (.inr (5, [.ref pl, .ref p, .ref (k + 1), .int (nI ep + 1), .int (nI (E.2.2 ep)), .int (gI (eL E ep))]))) pl = some (plO (eN E) (eC E)) := (mup_ne _ _ hpk).trans hpl
  refine rw_aload_n d_MapKeeper_renew_10 rfl (by first | exact mm_ref_r _ | exact mm_ref_n | exact mm_ref_o _) ?_
  refine rw_iload_n d_MapKeeper_renew_11 rfl ?_
  refine rw_aload_n d_MapKeeper_renew_12 rfl (by first | exact mm_ref_r _ | exact mm_ref_n | exact mm_ref_o _) ?_
  refine rw_get d_MapKeeper_renew_13 fF_MapKeeper_15 (mup_self _ _ _) rfl ?_
  refine rw_callV (kc := 0) (ks := 0) (rest := [.int w, .ref k]) d_MapKeeper_renew_16 (c_all hp1 hN) mW_Plan_all mL_MapKeeper_23 mI_Plan_all mE_Plan_all ⟨by decide, by decide⟩ hp1 rfl rfl rfl rfl (Nat.le_of_ble_eq_true rfl) (fun r M1 sz1 hq => ?_)
  obtain ⟨rfl, rfl, rfl⟩ := hq
  refine rw_stk (st' := [.int (nI (2 ^ eN E - 1)), .int w, .ref k]) rfl ?_
  refine rw_iand d_MapKeeper_renew_19 ?_
  rw [hw]
  refine rw_put d_MapKeeper_renew_20 (fP_MapKeeper_29 _) (mup_self _ _ _) (Nat.le_of_ble_eq_true rfl) (by first | rfl | assumption | decide) (by first | rfl | decide) ?_
  have hp2 : (mup (mup M k (.inr (5, [.ref pl, .ref p, .ref (k + 1), .int (nI ep + 1), .int (nI (E.2.2 ep)), .int (gI (eL E ep))]))) k (.inr (5, [.ref pl, .ref p, .ref (k + 1), .int (nI ep + 1), .int (nI (E.2.2 (ep + 1))), .int (gI (eL E ep))]))) pl = some (plO (eN E) (eC E)) := (mup_ne _ _ hpk).trans hp1
  refine rw_aload_n d_MapKeeper_renew_23 rfl (by first | exact mm_ref_r _ | exact mm_ref_n | exact mm_ref_o _) ?_
  refine rw_aload_n d_MapKeeper_renew_24 rfl (by first | exact mm_ref_r _ | exact mm_ref_n | exact mm_ref_o _) ?_
  refine rw_get d_MapKeeper_renew_25 fF_MapKeeper_15 (mup_self _ _ _) rfl ?_
  refine rw_aload_n d_MapKeeper_renew_28 rfl (by first | exact mm_ref_r _ | exact mm_ref_n | exact mm_ref_o _) ?_
  refine rw_get d_MapKeeper_renew_29 fF_MapKeeper_15 (mup_self _ _ _) rfl ?_
  refine rw_aload_n d_MapKeeper_renew_32 rfl (by first | exact mm_ref_r _ | exact mm_ref_n | exact mm_ref_o _) ?_
  refine rw_get d_MapKeeper_renew_33 fF_MapKeeper_29 (mup_self _ _ _) rfl ?_
  refine rw_callV (kc := 0) (ks := 0) (rest := [.ref pl, .ref k]) d_MapKeeper_renew_36 (c_keepers hp2 hN hC hs) mW_Plan_keepers mL_MapKeeper_46 mI_Plan_keepers mE_Plan_keepers ⟨by decide, by decide⟩ hp2 rfl rfl rfl rfl (Nat.le_of_ble_eq_true rfl) (fun r2 M2 sz2 hq2 => ?_)
  obtain ⟨rfl, rfl, rfl⟩ := hq2
  refine rw_stk (st' := [.int (nI (eM E (ep + 1))), .ref pl, .ref k]) rfl ?_
  refine rw_callV (kc := 0) (ks := 0) (rest := [.ref k]) d_MapKeeper_renew_39 (c_greatest hp2 hN hm) mW_Plan_greatest mL_MapKeeper_32 mI_Plan_greatest mE_Plan_greatest ⟨by decide, by decide⟩ hp2 rfl rfl rfl rfl (Nat.le_of_ble_eq_true rfl) (fun r3 M3 sz3 hq3 => ?_)
  obtain ⟨rfl, rfl, rfl⟩ := hq3
  refine rw_stk (st' := [.int (gI (eL E (ep + 1))), .ref k]) rfl ?_
  refine rw_put d_MapKeeper_renew_42 (fP_MapKeeper_36 _) (mup_self _ _ _) (Nat.le_of_ble_eq_true rfl) (by first | rfl | assumption | decide) (by first | rfl | decide) ?_
  refine rw_vret d_MapKeeper_renew_45 rfl ⟨rfl, rfl, ⟨fa, ?_, ?_, k2⟩, fun x hx => ?_⟩
  · rw [mup_self, ← nI_1]
    rfl
  · rw [mup_ne _ _ (by omega), mup_ne _ _ (by omega), mup_ne _ _ (by omega)]
    exact k1
  · rw [mup_ne _ _ hx, mup_ne _ _ hx, mup_ne _ _ hx]
end KEEPER
