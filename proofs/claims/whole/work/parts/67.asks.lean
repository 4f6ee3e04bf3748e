/-! VersionGroup: count, answer, at. -/
section ASKS
variable {l : Launch} {G : mm_G} {sz : Nat} {ca : Nat → Nat} {cm : Nat → pCm} {g : Nat} {E : pE} {v : Nat} {nd : Nat → pN} {post : List pMsg} {y : pN}
/-- how many of the first n nodes are up -/
def pUp (nd : Nat → pN) : Nat → Nat
  | 0 => 0
  | n + 1 => pUp nd n + nd n 0
def pCnt (E : pE) (nd : Nat → pN) (y : pN) (k : Int32) : Int32 :=
  if k = 0 then nI (y 1) else if k = 1 then nI (y 1 - y 2) else if k = 2 then nI (y 0) else if k = 3 then nI (pUp nd (eN E)) else if k = 4 then nI (E.2.2 (y 0)) else if k = 5 then nI (y 3) else -1
set_option maxRecDepth 100000 in
theorem nodesUp_loop {M : mm_M} (h : VgP G M ca cm g E v nd post y) : ∀ (m k : Nat), m + k = eN E → RW l G Y_VG_nodesUp (rm 1) (mm_Z G (rm 1) (NuQ M sz (pUp nd (eN E)))) 0 0 4 [(0, .ref v), (1, .int (nI (pUp nd k))), (2, .int (nI k))] [] M sz := by
  obtain ⟨h0, ⟨f, h1, h1b⟩, h2, h3, h4, h5, h6, -⟩ := id h
  have hN7 := h2.2.2.2.2.1
  intro m
  induction m with
  | zero =>
    intro k hk
    have : k = eN E := by omega
    subst this
    refine rw_iload_n d_VG_nodesUp_4 rfl ?_
    refine rw_aload_n d_VG_nodesUp_5 rfl (by first | exact mm_ref_r _ | exact mm_ref_n | exact mm_ref_o _) ?_
    refine rw_get d_VG_nodesUp_6 fF_VG_54 h0 rfl ?_
    refine rw_alen d_VG_nodesUp_9 h1 (by decide) rfl ?_
    refine rw_icmp_ge_t (tgt := 34) d_VG_nodesUp_10 (by decide) (nI_le (a := eN E) (b := eN E) (by omega) (by omega)) ?_
    refine rw_iload_n d_VG_nodesUp_34 rfl ?_
    exact rw_iret d_VG_nodesUp_35 rfl ⟨rfl, rfl, rfl⟩
  | succ m ih =>
    intro k hk
    have hkN : k < eN E := by omega
    have hNk := h6 k hkN
    have b0 := hNk.2.2.2.2.2 0 (by omega)
    refine rw_iload_n d_VG_nodesUp_4 rfl ?_
    refine rw_aload_n d_VG_nodesUp_5 rfl (by first | exact mm_ref_r _ | exact mm_ref_n | exact mm_ref_o _) ?_
    refine rw_get d_VG_nodesUp_6 fF_VG_54 h0 rfl ?_
    refine rw_alen d_VG_nodesUp_9 h1 (by decide) rfl ?_
    refine rw_icmp_ge_f (tgt := 34) d_VG_nodesUp_10 (by decide) (nI_ge (a := k) (b := eN E) hkN (by omega)) ?_
    refine rw_aload_n d_VG_nodesUp_13 rfl (by first | exact mm_ref_r _ | exact mm_ref_n | exact mm_ref_o _) ?_
    refine rw_get d_VG_nodesUp_14 fF_VG_54 h0 rfl ?_
    refine rw_iload_n d_VG_nodesUp_17 rfl ?_
    refine rw_aald d_VG_nodesUp_18 h1 (by decide) rfl (vp_in_nI hkN (by omega)) ?_
    rw [nI_c (by omega), h1b k hkN]
    refine rw_stk (st' := [.ref (v + 337 + 15 * k)]) rfl ?_
    refine rw_get d_VG_nodesUp_19 fF_VG_105 hNk.1 rfl ?_
    rcases (show nd k 0 = 0 ∨ nd k 0 = 1 by omega) with c0 | c0
    · rw [c0]
      refine rw_if_eq_t (tgt := 28) d_VG_nodesUp_22 (by decide) (by decide) ?_
      refine rw_iinc d_VG_nodesUp_28 (by decide) rfl rfl rfl ?_
      refine rw_lv (lv' := [(0, .ref v), (1, .int (nI (pUp nd (k + 1)))), (2, .int (nI (k + 1)))]) (by rw [← nI_1, pUp, c0]; intro q hq; simp at hq; rcases hq with rfl | rfl | rfl <;> rfl) ?_
      refine rw_goto (tgt := 4) d_VG_nodesUp_31 (by decide) ?_
      exact ih (k + 1) (by omega)
    · rw [c0]
      refine rw_if_eq_f (tgt := 28) d_VG_nodesUp_22 (by decide) (by decide) ?_
      refine rw_iinc d_VG_nodesUp_25 (by decide) rfl rfl rfl ?_
      refine rw_iinc d_VG_nodesUp_28 (by decide) rfl rfl rfl ?_
      refine rw_lv (lv' := [(0, .ref v), (1, .int (nI (pUp nd (k + 1)))), (2, .int (nI (k + 1)))]) (by rw [← nI_1, pUp, c0, ← nI_1]; intro q hq; simp at hq; rcases hq with rfl | rfl | rfl <;> rfl) ?_
      refine rw_goto (tgt := 4) d_VG_nodesUp_31 (by decide) ?_
      exact ih (k + 1) (by omega)
theorem c_nodesUp {M : mm_M} (h : VgP G M ca cm g E v nd post y) : CT l G Y_VG_nodesUp ds_VG_nodesUp (rm 1) [.ref v] M sz (NuQ M sz (pUp nd (eN E))) := by
  refine CT.of (by decide) (Nat.le_of_ble_eq_true rfl) ?_
  refine rw_iconst (v := 0) d_VG_nodesUp_0 (by decide) ?_
  refine rw_istore_n d_VG_nodesUp_1 (by decide) rfl ?_
  refine rw_iconst (v := 0) d_VG_nodesUp_2 (by decide) ?_
  refine rw_istore_n d_VG_nodesUp_3 (by decide) rfl ?_
  refine rw_lv (lv' := [(0, .ref v), (1, .int (nI (pUp nd 0))), (2, .int (nI 0))]) (by intro q hq; simp at hq; rcases hq with rfl | rfl | rfl <;> rfl) ?_
  exact nodesUp_loop h (eN E) 0 (by omega)
theorem i32_ne {k c : Int32} (h : k ≠ c) : k.toInt ≠ c.toInt := fun e => h (Int32.toInt_inj.mp e)
set_option maxRecDepth 100000 in
theorem c_count {M : mm_M} {k : Int32} (h : VgP G M ca cm g E v nd post y) : CT l G Y_VG_count ds_VG_count (rm 2) [.ref v, .int k] M sz (fun r M' sz' => r = some (.int (pCnt E nd y k)) ∧ M' = M ∧ sz' = sz) := by
  obtain ⟨h0, ⟨f, h1, h1b⟩, h2, h3, h4, h5, h6, h7, h8, h9, -⟩ := id h
  obtain ⟨cs, arr, an, d0, -⟩ := id h4
  obtain ⟨fp, p0, -⟩ := id h3
  refine CT.of (by decide) (Nat.le_of_ble_eq_true rfl) ?_
  refine rw_iload_n d_VG_count_0 rfl ?_
  by_cases c0 : k = 0
  · subst c0
    refine rw_tabIn (off := 39) (tgt := 40) d_VG_count_1 (by decide) (by decide) (by decide) (by decide) ?_
    refine rw_aload_n d_VG_count_40 rfl (by first | exact mm_ref_r _ | exact mm_ref_n | exact mm_ref_o _) ?_
    refine rw_get d_VG_count_41 fF_VG_44 h0 rfl ?_
    refine rw_get d_VG_count_44 fF_VG_134 d0 rfl ?_
    exact rw_iret d_VG_count_47 rfl ⟨rfl, rfl, rfl⟩
  by_cases c1 : k = 1
  · subst c1
    refine rw_tabIn (off := 47) (tgt := 48) d_VG_count_1 (by decide) (by decide) (by decide) (by decide) ?_
    refine rw_aload_n d_VG_count_48 rfl (by first | exact mm_ref_r _ | exact mm_ref_n | exact mm_ref_o _) ?_
    refine rw_get d_VG_count_49 fF_VG_44 h0 rfl ?_
    refine rw_callV (kc := 0) (ks := 0) (rest := []) d_VG_count_52 (c_open h4) mW_Desk_open mL_VG_118 mI_Desk_open mE_Desk_open ⟨by decide, by decide⟩ d0 rfl rfl rfl rfl (Nat.le_of_ble_eq_true rfl) (fun r M1 sz1 hq => ?_)
    obtain ⟨rfl, rfl, rfl⟩ := hq
    exact rw_iret d_VG_count_55 rfl ⟨rfl, rfl, rfl⟩
  by_cases c2 : k = 2
  · subst c2
    refine rw_tabIn (off := 55) (tgt := 56) d_VG_count_1 (by decide) (by decide) (by decide) (by decide) ?_
    refine rw_aload_n d_VG_count_56 rfl (by first | exact mm_ref_r _ | exact mm_ref_n | exact mm_ref_o _) ?_
    refine rw_get d_VG_count_57 fF_VG_35 h0 rfl ?_
    refine rw_get d_VG_count_60 fF_VG_79 p0 rfl ?_
    exact rw_iret d_VG_count_63 rfl ⟨rfl, rfl, rfl⟩
  by_cases c3 : k = 3
  · subst c3
    refine rw_tabIn (off := 63) (tgt := 64) d_VG_count_1 (by decide) (by decide) (by decide) (by decide) ?_
    refine rw_aload_n d_VG_count_64 rfl (by first | exact mm_ref_r _ | exact mm_ref_n | exact mm_ref_o _) ?_
    refine rw_callV (kc := 0) (ks := 0) (rest := []) d_VG_count_65 (c_nodesUp h) mW_VG_nodesUp mL_VG_168 mI_VG_nodesUp mE_VG_nodesUp ⟨by decide, by decide⟩ h0 rfl rfl rfl rfl (Nat.le_of_ble_eq_true rfl) (fun r M1 sz1 hq => ?_)
    obtain ⟨rfl, rfl, rfl⟩ := hq
    exact rw_iret d_VG_count_68 rfl ⟨rfl, rfl, rfl⟩
  by_cases c4 : k = 4
  · subst c4
    refine rw_tabIn (off := 68) (tgt := 69) d_VG_count_1 (by decide) (by decide) (by decide) (by decide) ?_
    refine rw_aload_n d_VG_count_69 rfl (by first | exact mm_ref_r _ | exact mm_ref_n | exact mm_ref_o _) ?_
    refine rw_get d_VG_count_70 fF_VG_35 h0 rfl ?_
    refine rw_get d_VG_count_73 fF_VG_171 p0 rfl ?_
    exact rw_iret d_VG_count_76 rfl ⟨rfl, rfl, rfl⟩
  by_cases c5 : k = 5
  · subst c5
    refine rw_tabIn (off := 76) (tgt := 77) d_VG_count_1 (by decide) (by decide) (by decide) (by decide) ?_
    refine rw_aload_n d_VG_count_77 rfl (by first | exact mm_ref_r _ | exact mm_ref_n | exact mm_ref_o _) ?_
    refine rw_get d_VG_count_78 fF_VG_68 h0 rfl ?_
    rcases (show y 3 = 0 ∨ y 3 = 1 by omega) with e | e
    · rw [e]
      refine rw_if_eq_t (tgt := 88) d_VG_count_81 (by decide) (by decide) ?_
      refine rw_iconst (v := 0) d_VG_count_88 (by decide) ?_
      exact rw_iret d_VG_count_89 rfl ⟨by rw [show pCnt E nd y 5 = nI (y 3) from rfl, e]; rfl, rfl, rfl⟩
    · rw [e]
      refine rw_if_eq_f (tgt := 88) d_VG_count_81 (by decide) (by decide) ?_
      refine rw_iconst (v := 1) d_VG_count_84 (by decide) ?_
      refine rw_goto (tgt := 89) d_VG_count_85 (by decide) ?_
      exact rw_iret d_VG_count_89 rfl ⟨by rw [show pCnt E nd y 5 = nI (y 3) from rfl, e]; rfl, rfl, rfl⟩
  have e0 := i32_ne c0
  have e1 := i32_ne c1
  have e2 := i32_ne c2
  have e3 := i32_ne c3
  have e4 := i32_ne c4
  have e5 := i32_ne c5
  rw [show (0 : Int32).toInt = 0 by decide] at e0
  rw [show (1 : Int32).toInt = 1 by decide] at e1
  rw [show (2 : Int32).toInt = 2 by decide] at e2
  rw [show (3 : Int32).toInt = 3 by decide] at e3
  rw [show (4 : Int32).toInt = 4 by decide] at e4
  rw [show (5 : Int32).toInt = 5 by decide] at e5
  refine rw_tabOut (tgt := 90) d_VG_count_1 (by omega) (by decide) ?_
  refine rw_iconst (v := (-1)) d_VG_count_90 (by decide) ?_
  refine rw_iret d_VG_count_91 rfl ⟨?_, rfl, rfl⟩
  rw [pCnt, if_neg c0, if_neg c1, if_neg c2, if_neg c3, if_neg c4, if_neg c5]
/-- what answer says -/
def AnQ (M : mm_M) (sz : Nat) (cm : Nat → pCm) (g td : Nat) (k : Int32) : Option Value → mm_M → Nat → Prop := fun r M' sz' => M' = M ∧ sz' = sz ∧ (((¬ ∃ i, i < g ∧ k = nI i) ∧ r = some (.long (-1))) ∨ ∃ i, i < g ∧ k = nI i ∧ r = some (.long (if i < td then (tAns cm i).toInt64 else 1099511627776)))
set_option maxRecDepth 100000 in
theorem c_answer {M : mm_M} {k : Int32} (h : VgP G M ca cm g E v nd post y) : CT l G Y_VG_answer ds_VG_answer (rm 1) [.ref v, .int k] M sz (AnQ M sz cm g (y 2) k) := by
  obtain ⟨h0, ⟨f, h1, h1b⟩, h2, h3, h4, h5, h6, h7, h8, h9, -⟩ := id h
  obtain ⟨cs, arr, an, d0, d1, d2, d3, b1, b2, b3, b4, b5, b6⟩ := id h4
  rw [h5] at d0 b1 b2 b3 b4 b6
  refine CT.of (by decide) (Nat.le_of_ble_eq_true rfl) ?_
  refine rw_iload_n d_VG_answer_0 rfl ?_
  refine rw_if_lt (tgt := 15) d_VG_answer_1 (by decide) (fun q => ?_) (fun q => ?_)
  · refine rw_ldc2 d_VG_answer_15 kC_VG_137 ?_
    refine rw_lret d_VG_answer_18 rfl ⟨rfl, rfl, Or.inl ⟨fun ⟨n, hn, z⟩ => ?_, rfl⟩⟩
    rw [z] at q
    exact absurd q (nI_pos (by omega))
  · obtain ⟨n, hn, rfl⟩ := nI_of q
    refine rw_iload_n d_VG_answer_4 rfl ?_
    refine rw_aload_n d_VG_answer_5 rfl (by first | exact mm_ref_r _ | exact mm_ref_n | exact mm_ref_o _) ?_
    refine rw_get d_VG_answer_6 fF_VG_44 h0 rfl ?_
    refine rw_get d_VG_answer_9 fF_VG_134 d0 rfl ?_
    by_cases c : n < g
    · refine rw_icmp_lt_t (tgt := 19) d_VG_answer_12 (by decide) (nI_lt c (by omega)) ?_
      refine rw_iload_n d_VG_answer_19 rfl ?_
      refine rw_aload_n d_VG_answer_20 rfl (by first | exact mm_ref_r _ | exact mm_ref_n | exact mm_ref_o _) ?_
      refine rw_get d_VG_answer_21 fF_VG_44 h0 rfl ?_
      refine rw_get d_VG_answer_24 fF_VG_139 d0 rfl ?_
      by_cases c2 : n < y 2
      · refine rw_icmp_ge_f (tgt := 43) d_VG_answer_27 (by decide) (nI_ge c2 (by omega)) ?_
        refine rw_aload_n d_VG_answer_30 rfl (by first | exact mm_ref_r _ | exact mm_ref_n | exact mm_ref_o _) ?_
        refine rw_get d_VG_answer_31 fF_VG_44 h0 rfl ?_
        refine rw_get d_VG_answer_34 fF_VG_142 d0 rfl ?_
        refine rw_iload_n d_VG_answer_37 rfl ?_
        refine rw_iald d_VG_answer_38 d3 (vp_in_nI (show n < 512 by omega) (by omega)) ?_
        refine rw_i2l d_VG_answer_39 rfl ?_
        refine rw_goto (tgt := 46) d_VG_answer_40 (by decide) ?_
        refine rw_lret d_VG_answer_46 rfl ⟨rfl, rfl, Or.inr ⟨n, c, rfl, ?_⟩⟩
        rw [if_pos c2, nI_c (by omega), b6 n c (Or.inl c2)]
      · refine rw_icmp_ge_t (tgt := 43) d_VG_answer_27 (by decide) (nI_le (a := y 2) (b := n) (by omega) (by omega)) ?_
        refine rw_ldc2 d_VG_answer_43 kC_VG_146 ?_
        refine rw_lret d_VG_answer_46 rfl ⟨rfl, rfl, Or.inr ⟨n, c, rfl, ?_⟩⟩
        rw [if_neg c2]
    · refine rw_icmp_lt_f (tgt := 19) d_VG_answer_12 (by decide) (nI_nlt (a := n) (b := g) (by omega) hn) ?_
      refine rw_ldc2 d_VG_answer_15 kC_VG_137 ?_
      refine rw_lret d_VG_answer_18 rfl ⟨rfl, rfl, Or.inl ⟨fun ⟨n2, hn2, z⟩ => ?_, rfl⟩⟩
      rw [nI_eq hn (by omega)] at z
      omega
/-- what at takes -/
def aOk (N : Nat) (n k w : Int32) : Prop := ∃ nn kk, n = nI nn ∧ nn < N ∧ k = nI kk ∧ kk < 40 ∧ (w = 0 ∨ w = 1)
/-- what at says -/
def AtQ (M : mm_M) (sz : Nat) (cm : Nat → pCm) (N : Nat) (nd : Nat → pN) (y : pN) (n k w : Int32) : Option Value → mm_M → Nat → Prop := fun r M' sz' => M' = M ∧ sz' = sz ∧ ((¬ aOk N n k w ∧ r = some (.long (-1))) ∨ (aOk N n k w ∧ y 3 = 0 ∧ r = some (.long (-3))) ∨
  ∃ nn kk, n = nI nn ∧ nn < N ∧ k = nI kk ∧ kk < 40 ∧ (w = 0 ∨ w = 1) ∧ y 3 = 1 ∧ r = some (.long (if w = 0 then (bI ((tab cm (nd nn 5)).1 kk)).toInt64 else ((tab cm (nd nn 5)).2 kk).toInt64)))
set_option maxRecDepth 100000 in
theorem c_at {M : mm_M} {n k w : Int32} (h : VgP G M ca cm g E v nd post y) : CT l G Y_VG_at ds_VG_at (rm 2) [.ref v, .int n, .int k, .int w] M sz (AtQ M sz cm (eN E) nd y n k w) := by
  obtain ⟨h0, ⟨f, h1, h1b⟩, h2, h3, h4, h5, h6, h7, h8, h9, -⟩ := id h
  have hN7 := h2.2.2.2.2.1
  have no : ¬ aOk (eN E) n k w → RW l G Y_VG_at (rm 2) (mm_Z G (rm 2) (AtQ M sz cm (eN E) nd y n k w)) 0 0 24 [(0, .ref v), (1, .int n), (2, .int k), (3, .int w)] [] M sz := fun z => by
    refine rw_ldc2 d_VG_at_24 kC_VG_137 ?_
    exact rw_lret d_VG_at_27 rfl ⟨rfl, rfl, Or.inl ⟨z, rfl⟩⟩
  refine CT.of (by decide) (Nat.le_of_ble_eq_true rfl) ?_
  refine rw_aload_n d_VG_at_0 rfl (by first | exact mm_ref_r _ | exact mm_ref_n | exact mm_ref_o _) ?_
  refine rw_iload_n d_VG_at_1 rfl ?_
  refine rw_callV (kc := 0) (ks := 0) (rest := []) d_VG_at_2 (c_isNode (k := n) h) mW_VG_isNode mL_VG_102 mI_VG_isNode mE_VG_isNode ⟨by decide, by decide⟩ h0 rfl rfl rfl rfl (Nat.le_of_ble_eq_true rfl) (fun r M1 sz1 hq => ?_)
  obtain ⟨⟨c, rfl, hc⟩, u1, u2⟩ := hq
  rw [u1, u2]
  refine rw_stk (st' := [.int (bI c)]) rfl ?_
  cases c with
  | false =>
    refine rw_if_eq_t (tgt := 24) d_VG_at_5 (by decide) (rfl) ?_
    exact no (fun ⟨nn, kk, e1, e2, e3⟩ => absurd (hc.mpr ⟨nn, e2, e1⟩) (by decide))
  | true =>
    obtain ⟨nn, hnn, rfl⟩ := hc.mp rfl
    refine rw_if_eq_f (tgt := 24) d_VG_at_5 (by decide) (by decide) ?_
    refine rw_iload_n d_VG_at_8 rfl ?_
    refine rw_callS (kc := 0) (ks := 0) (rest := []) d_VG_at_9 (c_isKey (k := k)) mW_VG_isKey mL_VG_60 mS_VG_isKey ⟨by decide, by decide⟩ rfl rfl (Nat.le_of_ble_eq_true rfl) (fun r M1 sz1 hq => ?_)
    obtain ⟨⟨c, rfl, hk⟩, u1, u2⟩ := hq
    rw [u1, u2]
    refine rw_stk (st' := [.int (bI c)]) rfl ?_
    cases c with
    | false =>
      refine rw_if_eq_t (tgt := 24) d_VG_at_12 (by decide) (rfl) ?_
      exact no (fun ⟨nn, kk, e1, e2, e3, e4, e5⟩ => absurd (hk.mpr ⟨kk, e4, e3⟩) (by decide))
    | true =>
      obtain ⟨kk, hkk, rfl⟩ := hk.mp rfl
      refine rw_if_eq_f (tgt := 24) d_VG_at_12 (by decide) (by decide) ?_
      refine rw_iload_n d_VG_at_15 rfl ?_
      refine rw_if_lt (tgt := 24) d_VG_at_16 (by decide) (fun q => ?_) (fun q => ?_)
      · refine no (fun ⟨nn, kk, e1, e2, e3, e4, e5⟩ => ?_)
        rcases e5 with rfl | rfl
        · exact absurd q (by decide)
        · exact absurd q (by decide)
      · obtain ⟨ww, hww, rfl⟩ := nI_of q
        refine rw_iload_n d_VG_at_19 rfl ?_
        refine rw_iconst (v := 1) d_VG_at_20 (by decide) ?_
        by_cases c : ww ≤ 1
        · refine rw_icmp_le_t (tgt := 28) d_VG_at_21 (by decide) (nI_le (a := ww) (b := 1) c (by omega)) ?_
          have hw01 : nI ww = 0 ∨ nI ww = 1 := by
            rcases (show ww = 0 ∨ ww = 1 by omega) with rfl | rfl
            · exact Or.inl rfl
            · exact Or.inr rfl
          refine rw_aload_n d_VG_at_28 rfl (by first | exact mm_ref_r _ | exact mm_ref_n | exact mm_ref_o _) ?_
          refine rw_get d_VG_at_29 fF_VG_68 h0 rfl ?_
          rcases (show y 3 = 0 ∨ y 3 = 1 by omega) with e | e
          · rw [e]
            refine rw_if_ne_f (tgt := 39) d_VG_at_32 (by decide) (by decide) ?_
            refine rw_ldc2 d_VG_at_35 kC_VG_148 ?_
            exact rw_lret d_VG_at_38 rfl ⟨rfl, rfl, Or.inr (Or.inl ⟨⟨nn, kk, rfl, hnn, rfl, hkk, hw01⟩, e, rfl⟩)⟩
          · rw [e]
            refine rw_if_ne_t (tgt := 39) d_VG_at_32 (by decide) (by decide) ?_
            have hNk := h6 nn hnn
            obtain ⟨hh, vv, ann, lg, ⟨r0, r1, r2, r3⟩, -, -, -, -, b5⟩ := id hNk.2.1.2
            obtain ⟨t1, t2, t3⟩ := b5 (by omega)
            refine rw_aload_n d_VG_at_39 rfl (by first | exact mm_ref_r _ | exact mm_ref_n | exact mm_ref_o _) ?_
            refine rw_get d_VG_at_40 fF_VG_54 h0 rfl ?_
            refine rw_iload_n d_VG_at_43 rfl ?_
            refine rw_aald d_VG_at_44 h1 (by decide) rfl (vp_in_nI hnn (by omega)) ?_
            rw [nI_c (by omega), h1b nn hnn]
            refine rw_stk (st' := [.ref (v + 337 + 15 * nn)]) rfl ?_
            refine rw_get d_VG_at_45 fF_VG_150 hNk.1 rfl ?_
            refine rw_get d_VG_at_48 fF_VG_154 hNk.2.1.1 rfl ?_
            refine rw_astore d_VG_at_51 (by decide) (by first | exact mm_ref_r _ | exact mm_ref_n | exact mm_ref_o _) rfl ?_
            refine rw_iload_n d_VG_at_53 rfl ?_
            rcases (show ww = 0 ∨ ww = 1 by omega) with rfl | rfl
            · refine rw_if_ne_f (tgt := 72) d_VG_at_54 (by decide) (by decide) ?_
              refine rw_aload d_VG_at_57 rfl (by first | exact mm_ref_r _ | exact mm_ref_n | exact mm_ref_o _) ?_
              refine rw_iload_n d_VG_at_59 rfl ?_
              refine rw_callV (kc := 0) (ks := 0) (rest := []) d_VG_at_60 (c_has r0 hkk t1) mW_Copy_has mL_VG_160 mI_Copy_has mE_Copy_has ⟨by decide, by decide⟩ r0 rfl rfl rfl rfl (Nat.le_of_ble_eq_true rfl) (fun r M1 sz1 hq => ?_)
              obtain ⟨rfl, u1, u2⟩ := hq
              rw [u1, u2]
              refine rw_stk (st' := [.int (bI ((tab cm (nd nn 5)).1 kk))]) rfl ?_
              have fin : ∀ b : Bool, (tab cm (nd nn 5)).1 kk = b → AtQ M sz cm (eN E) nd y (nI nn) (nI kk) (nI 0) (some (.long (bI b).toInt64)) M sz := fun b hb => ⟨rfl, rfl, Or.inr (Or.inr ⟨nn, kk, rfl, hnn, rfl, hkk, Or.inl rfl, e, by rw [if_pos (show nI 0 = 0 from rfl), hb]⟩)⟩
              cases hb : (tab cm (nd nn 5)).1 kk with
              | false =>
                refine rw_if_eq_t (tgt := 70) d_VG_at_63 (by decide) (rfl) ?_
                refine rw_lconst (v := 0) d_VG_at_70 (by decide) ?_
                exact rw_lret d_VG_at_71 rfl (fin false hb)
              | true =>
                refine rw_if_eq_f (tgt := 70) d_VG_at_63 (by decide) (by decide) ?_
                refine rw_lconst (v := 1) d_VG_at_66 (by decide) ?_
                refine rw_goto (tgt := 71) d_VG_at_67 (by decide) ?_
                exact rw_lret d_VG_at_71 rfl (fin true hb)
            · refine rw_if_ne_t (tgt := 72) d_VG_at_54 (by decide) (by decide) ?_
              refine rw_aload d_VG_at_72 rfl (by first | exact mm_ref_r _ | exact mm_ref_n | exact mm_ref_o _) ?_
              refine rw_get d_VG_at_74 fF_VG_165 r0 rfl ?_
              refine rw_iload_n d_VG_at_77 rfl ?_
              refine rw_iald d_VG_at_78 r1 (vp_in_nI hkk (by omega)) ?_
              refine rw_i2l d_VG_at_79 rfl ?_
              refine rw_lret d_VG_at_80 rfl ⟨rfl, rfl, Or.inr (Or.inr ⟨nn, kk, rfl, hnn, rfl, hkk, Or.inr rfl, e, ?_⟩)⟩
              rw [if_neg (by decide), nI_c (by omega), t2 kk hkk]
        · refine rw_icmp_le_f (tgt := 28) d_VG_at_21 (by decide) (fun z => c ((nI_leI (by omega) (by omega)).mp z)) ?_
          refine no (fun ⟨nn, kk, e1, e2, e3, e4, e5⟩ => ?_)
          rcases e5 with e5 | e5
          · have := (nI_eq (a := ww) (b := 0) hww (by omega)).mp e5
            omega
          · have := (nI_eq (a := ww) (b := 1) hww (by omega)).mp e5
            omega
end ASKS
