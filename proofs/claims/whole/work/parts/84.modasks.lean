/-! The reference: answer, copy, at, count. -/
section MODASKS
variable {l : Launch} {G : mm_G} {M : mm_M} {sz : Nat} {E : pE} {cm : Nat → pCm} {mo aa L td gv up ep cl : Nat}
set_option maxRecDepth 100000 in
theorem c_mAnswer {k : Int32} (h : MoP M mo aa L E cm td gv up ep cl) : CT l G Y_Mod_answer ds_Mod_answer (rm 1) [.ref mo, .int k] M sz (AnQ M sz cm gv td k) := by
  obtain ⟨vv, hh, kk, ke, wi, an, h0, h1, h2, h3, h4, h5, h6, ⟨a1, a2, a3, a4, a5, a6, a7, a8, a9⟩, t1, t2, t3⟩ := id h
  refine CT.of (by decide) (Nat.le_of_ble_eq_true rfl) ?_
  refine rw_iload_n d_Mod_answer_0 rfl ?_
  refine rw_if_lt (tgt := 12) d_Mod_answer_1 (by decide) (fun q => ?_) (fun q => ?_)
  · refine rw_ldc2 d_Mod_answer_12 kC_Mod_68 ?_
    refine rw_lret d_Mod_answer_15 rfl ⟨rfl, rfl, Or.inl ⟨fun ⟨n, hn, z⟩ => ?_, rfl⟩⟩
    rw [z] at q
    exact absurd q (nI_pos (by omega))
  · obtain ⟨n, hn, rfl⟩ := nI_of q
    refine rw_iload_n d_Mod_answer_4 rfl ?_
    refine rw_aload_n d_Mod_answer_5 rfl (by first | exact mm_ref_r _ | exact mm_ref_n | exact mm_ref_o _) ?_
    refine rw_get d_Mod_answer_6 fF_Mod_49 h0 rfl ?_
    by_cases c : n < gv
    · refine rw_icmp_lt_t (tgt := 16) d_Mod_answer_9 (by decide) (nI_lt c (by omega)) ?_
      refine rw_iload_n d_Mod_answer_16 rfl ?_
      refine rw_aload_n d_Mod_answer_17 rfl (by first | exact mm_ref_r _ | exact mm_ref_n | exact mm_ref_o _) ?_
      refine rw_get d_Mod_answer_18 fF_Mod_49 h0 rfl ?_
      refine rw_aload_n d_Mod_answer_21 rfl (by first | exact mm_ref_r _ | exact mm_ref_n | exact mm_ref_o _) ?_
      refine rw_get d_Mod_answer_22 fF_Mod_46 h0 rfl ?_
      refine rw_isub d_Mod_answer_25 ?_
      rw [nI_sub (show gv - td ≤ gv by omega), show gv - (gv - td) = td by omega]
      by_cases c2 : n < td
      · refine rw_icmp_lt_t (tgt := 35) d_Mod_answer_26 (by decide) (nI_lt c2 (by omega)) ?_
        refine rw_aload_n d_Mod_answer_35 rfl (by first | exact mm_ref_r _ | exact mm_ref_n | exact mm_ref_o _) ?_
        refine rw_get d_Mod_answer_36 fF_Mod_26 h0 rfl ?_
        refine rw_iload_n d_Mod_answer_39 rfl ?_
        refine rw_lald d_Mod_answer_40 h6 (vp_in_nI (show n < L by omega) (by omega)) ?_
        refine rw_lret d_Mod_answer_41 rfl ⟨rfl, rfl, Or.inr ⟨n, c, rfl, ?_⟩⟩
        rw [if_pos c2, nI_c (by omega), t3 n c2]
      · refine rw_icmp_lt_f (tgt := 35) d_Mod_answer_26 (by decide) (nI_nlt (a := n) (b := td) (by omega) hn) ?_
        refine rw_ldc2 d_Mod_answer_29 kC_Mod_70 ?_
        refine rw_goto (tgt := 41) d_Mod_answer_32 (by decide) ?_
        refine rw_lret d_Mod_answer_41 rfl ⟨rfl, rfl, Or.inr ⟨n, c, rfl, ?_⟩⟩
        rw [if_neg c2]
    · refine rw_icmp_lt_f (tgt := 16) d_Mod_answer_9 (by decide) (nI_nlt (a := n) (b := gv) (by omega) hn) ?_
      refine rw_ldc2 d_Mod_answer_12 kC_Mod_68 ?_
      refine rw_lret d_Mod_answer_15 rfl ⟨rfl, rfl, Or.inl ⟨fun ⟨n2, hn2, z⟩ => ?_, rfl⟩⟩
      rw [nI_eq hn (by omega)] at z
      omega
/-- how many of the first m nodes have a greater rank -/
def pBef (n : Nat) : Nat → Nat
  | 0 => 0
  | m + 1 => pBef n m + (if n * 37 % 11 < m * 37 % 11 then 1 else 0)
theorem pBef_le (n : Nat) : ∀ m, pBef n m ≤ m := by
  intro m
  induction m with
  | zero => exact Nat.le_refl _
  | succ m ih =>
    rw [pBef]
    split <;> omega
def McQ (M : mm_M) (sz : Nat) (E : pE) (n : Nat) : Option Value → mm_M → Nat → Prop := fun r M' sz' => r = some (.int (bI (decide (pBef n (eN E) < eC E)))) ∧ M' = M ∧ sz' = sz
set_option maxRecDepth 100000 in
theorem copy_loop {n : Nat} (hN : eN E < 7) (hC : eC E < 4) (hn : n < 7) (h0 : M mo = some (moO mo aa E td gv up ep cl)) : ∀ (k m : Nat), k + m = eN E → RW l G Y_Mod_copy (rm 1) (mm_Z G (rm 1) (McQ M sz E n)) 0 0 4 [(0, .ref mo), (1, .int (nI n)), (2, .int (nI (pBef n m))), (3, .int (nI m))] [] M sz := by
  intro k
  induction k with
  | zero =>
    intro m hm
    have : m = eN E := by omega
    subst this
    have hb := pBef_le n (eN E)
    refine rw_iload_n d_Mod_copy_4 rfl ?_
    refine rw_aload_n d_Mod_copy_5 rfl (by first | exact mm_ref_r _ | exact mm_ref_n | exact mm_ref_o _) ?_
    refine rw_get d_Mod_copy_6 fF_Mod_34 h0 rfl ?_
    refine rw_icmp_ge_t (tgt := 38) d_Mod_copy_9 (by decide) (nI_le (a := eN E) (b := eN E) (by omega) (by omega)) ?_
    refine rw_iload_n d_Mod_copy_38 rfl ?_
    refine rw_aload_n d_Mod_copy_39 rfl (by first | exact mm_ref_r _ | exact mm_ref_n | exact mm_ref_o _) ?_
    refine rw_get d_Mod_copy_40 fF_Mod_37 h0 rfl ?_
    by_cases c : pBef n (eN E) < eC E
    · refine rw_icmp_ge_f (tgt := 50) d_Mod_copy_43 (by decide) (nI_ge (a := pBef n (eN E)) (b := eC E) c (by omega)) ?_
      refine rw_iconst (v := 1) d_Mod_copy_46 (by decide) ?_
      refine rw_goto (tgt := 51) d_Mod_copy_47 (by decide) ?_
      exact rw_zret d_Mod_copy_51 rfl rfl ⟨by rw [decide_eq_true c]; rfl, rfl, rfl⟩
    · refine rw_icmp_ge_t (tgt := 50) d_Mod_copy_43 (by decide) (nI_le (a := eC E) (b := pBef n (eN E)) (by omega) (by omega)) ?_
      refine rw_iconst (v := 0) d_Mod_copy_50 (by decide) ?_
      exact rw_zret d_Mod_copy_51 rfl rfl ⟨by rw [decide_eq_false c]; rfl, rfl, rfl⟩
  | succ k ih =>
    intro m hm
    refine rw_iload_n d_Mod_copy_4 rfl ?_
    refine rw_aload_n d_Mod_copy_5 rfl (by first | exact mm_ref_r _ | exact mm_ref_n | exact mm_ref_o _) ?_
    refine rw_get d_Mod_copy_6 fF_Mod_34 h0 rfl ?_
    refine rw_icmp_ge_f (tgt := 38) d_Mod_copy_9 (by decide) (nI_ge (a := m) (b := eN E) (by omega) (by omega)) ?_
    refine rw_iload_n d_Mod_copy_12 rfl ?_
    refine rw_bipush (v := 37) d_Mod_copy_13 (by decide) ?_
    refine rw_imul d_Mod_copy_15 ?_
    rw [show (37 : Int32) = nI 37 from rfl, nI_mul]
    refine rw_bipush (v := 11) d_Mod_copy_16 (by decide) ?_
    refine rw_irem d_Mod_copy_18 (by decide) ?_
    rw [show (11 : Int32) = nI 11 from rfl, nI_rem (by omega) (by omega) (by omega)]
    refine rw_iload_n d_Mod_copy_19 rfl ?_
    refine rw_bipush (v := 37) d_Mod_copy_20 (by decide) ?_
    refine rw_imul d_Mod_copy_22 ?_
    rw [show (37 : Int32) = nI 37 from rfl, nI_mul]
    refine rw_bipush (v := 11) d_Mod_copy_23 (by decide) ?_
    refine rw_irem d_Mod_copy_25 (by decide) ?_
    rw [show (11 : Int32) = nI 11 from rfl, nI_rem (by omega) (by omega) (by omega)]
    refine rw_icmp_le (tgt := 32) d_Mod_copy_26 (by decide) (fun q => ?_) (fun q => ?_)
    · rw [nI_leI (by omega) (by omega)] at q
      refine rw_iinc d_Mod_copy_32 (by decide) rfl rfl rfl ?_
      refine rw_lv (lv' := [(0, .ref mo), (1, .int (nI n)), (2, .int (nI (pBef n (m + 1)))), (3, .int (nI (m + 1)))]) (by rw [← nI_1, pBef, if_neg (by omega)]; intro q hq; simp at hq; rcases hq with rfl | rfl | rfl | rfl <;> rfl) ?_
      refine rw_goto (tgt := 4) d_Mod_copy_35 (by decide) ?_
      exact ih (m + 1) (by omega)
    · rw [nI_leI (by omega) (by omega)] at q
      refine rw_iinc d_Mod_copy_29 (by decide) rfl rfl rfl ?_
      refine rw_iinc d_Mod_copy_32 (by decide) rfl rfl rfl ?_
      refine rw_lv (lv' := [(0, .ref mo), (1, .int (nI n)), (2, .int (nI (pBef n (m + 1)))), (3, .int (nI (m + 1)))]) (by rw [← nI_1, pBef, if_pos (by omega), ← nI_1]; intro q hq; simp at hq; rcases hq with rfl | rfl | rfl | rfl <;> rfl) ?_
      refine rw_goto (tgt := 4) d_Mod_copy_35 (by decide) ?_
      exact ih (m + 1) (by omega)
theorem c_mCopy {n : Nat} (hN : eN E < 7) (hC : eC E < 4) (hn : n < 7) (h0 : M mo = some (moO mo aa E td gv up ep cl)) : CT l G Y_Mod_copy ds_Mod_copy (rm 1) [.ref mo, .int (nI n)] M sz (McQ M sz E n) := by
  refine CT.of (by decide) (Nat.le_of_ble_eq_true rfl) ?_
  refine rw_iconst (v := 0) d_Mod_copy_0 (by decide) ?_
  refine rw_istore_n d_Mod_copy_1 (by decide) rfl ?_
  refine rw_iconst (v := 0) d_Mod_copy_2 (by decide) ?_
  refine rw_istore_n d_Mod_copy_3 (by decide) rfl ?_
  refine rw_lv (lv' := [(0, .ref mo), (1, .int (nI n)), (2, .int (nI (pBef n 0))), (3, .int (nI 0))]) (by intro q hq; simp at hq; rcases hq with rfl | rfl | rfl | rfl <;> rfl) ?_
  exact copy_loop hN hC hn h0 (eN E) 0 (by omega)
/-- how far node n's table goes -/
def pKd (E : pE) (td n : Nat) : Nat := if pBef n (eN E) < eC E then td else 0
def MbQ (M : mm_M) (sz : Nat) (E : pE) (cm : Nat → pCm) (td cl : Nat) (n k w : Int32) : Option Value → mm_M → Nat → Prop := fun r M' sz' => M' = M ∧ sz' = sz ∧ ((¬ aOk (eN E) n k w ∧ r = some (.long (-1))) ∨ (aOk (eN E) n k w ∧ cl = 0 ∧ r = some (.long (-3))) ∨
  ∃ nn kk, n = nI nn ∧ nn < eN E ∧ k = nI kk ∧ kk < 40 ∧ (w = 0 ∨ w = 1) ∧ cl = 1 ∧ r = some (.long (if w = 0 then (bI ((tab cm (pKd E td nn)).1 kk)).toInt64 else ((tab cm (pKd E td nn)).2 kk).toInt64)))
set_option maxRecDepth 100000 in
theorem c_mAt {n k w : Int32} (hN : eN E < 7) (hC : eC E < 4) (h : MoP M mo aa L E cm td gv up ep cl) : CT l G Y_Mod_at ds_Mod_at (rm 2) [.ref mo, .int n, .int k, .int w] M sz (MbQ M sz E cm td cl n k w) := by
  obtain ⟨vv, hh, kk, ke, wi, an, h0, h1, h2, h3, h4, h5, h6, ⟨a1, a2, a3, a4, a5, a6, a7, a8, a9⟩, t1, t2, t3⟩ := id h
  have no : ¬ aOk (eN E) n k w → RW l G Y_Mod_at (rm 2) (mm_Z G (rm 2) (MbQ M sz E cm td cl n k w)) 0 0 31 [(0, .ref mo), (1, .int n), (2, .int k), (3, .int w)] [] M sz := fun z => by
    refine rw_ldc2 d_Mod_at_31 kC_Mod_68 ?_
    exact rw_lret d_Mod_at_34 rfl ⟨rfl, rfl, Or.inl ⟨z, rfl⟩⟩
  refine CT.of (by decide) (Nat.le_of_ble_eq_true rfl) ?_
  refine rw_iload_n d_Mod_at_0 rfl ?_
  refine rw_if_lt (tgt := 31) d_Mod_at_1 (by decide) (fun q => ?_) (fun q => ?_)
  · refine no (fun ⟨nn, kk, e1, e2, e3, e4, e5⟩ => ?_)
    rw [e1] at q
    exact absurd q (nI_pos (by omega))
  obtain ⟨nn, hnn, rfl⟩ := nI_of q
  refine rw_iload_n d_Mod_at_4 rfl ?_
  refine rw_aload_n d_Mod_at_5 rfl (by first | exact mm_ref_r _ | exact mm_ref_n | exact mm_ref_o _) ?_
  refine rw_get d_Mod_at_6 fF_Mod_34 h0 rfl ?_
  by_cases c1 : nn < eN E
  case neg =>
    refine rw_icmp_ge_t (tgt := 31) d_Mod_at_9 (by decide) (nI_le (a := eN E) (b := nn) (by omega) (by omega)) ?_
    refine no (fun ⟨n2, kk, e1, e2, e3, e4, e5⟩ => ?_)
    rw [nI_eq (by omega) (by omega)] at e1
    omega
  refine rw_icmp_ge_f (tgt := 31) d_Mod_at_9 (by decide) (nI_ge (a := nn) (b := eN E) c1 (by omega)) ?_
  refine rw_iload_n d_Mod_at_12 rfl ?_
  refine rw_if_lt (tgt := 31) d_Mod_at_13 (by decide) (fun q2 => ?_) (fun q2 => ?_)
  · refine no (fun ⟨nn, kk, e1, e2, e3, e4, e5⟩ => ?_)
    rw [e3] at q2
    exact absurd q2 (nI_pos (by omega))
  obtain ⟨kx, hkx, rfl⟩ := nI_of q2
  refine rw_iload_n d_Mod_at_16 rfl ?_
  refine rw_bipush (v := 39) d_Mod_at_17 (by decide) ?_
  by_cases c2 : kx ≤ 39
  case neg =>
    refine rw_icmp_gt_t (tgt := 31) d_Mod_at_19 (by decide) (nI_lt (a := 39) (b := kx) (by omega) hkx) ?_
    refine no (fun ⟨n2, kk, e1, e2, e3, e4, e5⟩ => ?_)
    rw [nI_eq (by omega) (by omega)] at e3
    omega
  refine rw_icmp_gt_f (tgt := 31) d_Mod_at_19 (by decide) (nI_nlt (b := kx) (a := 39) c2 (by omega)) ?_
  refine rw_iload_n d_Mod_at_22 rfl ?_
  refine rw_if_lt (tgt := 31) d_Mod_at_23 (by decide) (fun q3 => ?_) (fun q3 => ?_)
  · refine no (fun ⟨nn, kk, e1, e2, e3, e4, e5⟩ => ?_)
    rcases e5 with rfl | rfl
    · exact absurd q3 (by decide)
    · exact absurd q3 (by decide)
  obtain ⟨ww, hww, rfl⟩ := nI_of q3
  refine rw_iload_n d_Mod_at_26 rfl ?_
  refine rw_iconst (v := 1) d_Mod_at_27 (by decide) ?_
  by_cases c3 : ww ≤ 1
  case neg =>
    refine rw_icmp_le_f (tgt := 35) d_Mod_at_28 (by decide) (fun z => c3 ((nI_leI (by omega) (by omega)).mp z)) ?_
    refine no (fun ⟨nn, kk, e1, e2, e3, e4, e5⟩ => ?_)
    rcases e5 with e5 | e5
    · have := (nI_eq (a := ww) (b := 0) hww (by omega)).mp e5
      omega
    · have := (nI_eq (a := ww) (b := 1) hww (by omega)).mp e5
      omega
  refine rw_icmp_le_t (tgt := 35) d_Mod_at_28 (by decide) (nI_le (a := ww) (b := 1) c3 (by omega)) ?_
  have hw01 : nI ww = 0 ∨ nI ww = 1 := by
    rcases (show ww = 0 ∨ ww = 1 by omega) with rfl | rfl
    · exact Or.inl rfl
    · exact Or.inr rfl
  have hk40 : kx < 40 := by omega
  refine rw_aload_n d_Mod_at_35 rfl (by first | exact mm_ref_r _ | exact mm_ref_n | exact mm_ref_o _) ?_
  refine rw_get d_Mod_at_36 fF_Mod_52 h0 rfl ?_
  rcases (show cl = 0 ∨ cl = 1 by omega) with e | e
  · subst e
    refine rw_if_ne_f (tgt := 46) d_Mod_at_39 (by decide) (by decide) ?_
    refine rw_ldc2 d_Mod_at_42 kC_Mod_72 ?_
    exact rw_lret d_Mod_at_45 rfl ⟨rfl, rfl, Or.inr (Or.inl ⟨⟨nn, kx, rfl, c1, rfl, hk40, hw01⟩, rfl, rfl⟩)⟩
  · subst e
    refine rw_if_ne_t (tgt := 46) d_Mod_at_39 (by decide) (by decide) ?_
    have fin : ∀ z : Int64, z = (if nI ww = 0 then (bI ((tab cm (pKd E td nn)).1 kx)).toInt64 else ((tab cm (pKd E td nn)).2 kx).toInt64) → MbQ M sz E cm td 1 (nI nn) (nI kx) (nI ww) (some (.long z)) M sz := fun z hz => ⟨rfl, rfl, Or.inr (Or.inr ⟨nn, kx, rfl, c1, rfl, hk40, hw01, rfl, by rw [hz]⟩)⟩
    refine rw_aload_n d_Mod_at_46 rfl (by first | exact mm_ref_r _ | exact mm_ref_n | exact mm_ref_o _) ?_
    refine rw_iload_n d_Mod_at_47 rfl ?_
    refine rw_callV (kc := 0) (ks := 0) (rest := []) d_Mod_at_48 (c_mCopy (n := nn) hN hC (by omega) h0) mW_Mod_copy mL_Mod_74 mI_Mod_copy mE_Mod_copy ⟨by decide, by decide⟩ h0 rfl rfl rfl rfl (Nat.le_of_ble_eq_true rfl) (fun r M1 sz1 hq => ?_)
    obtain ⟨rfl, u1, u2⟩ := hq
    rw [u1, u2]
    by_cases cb : pBef nn (eN E) < eC E
    · have ek : pKd E td nn = td := by rw [pKd, if_pos cb]
      rw [ek] at fin
      rw [decide_eq_true cb]
      refine rw_stk (st' := [.int (bI true)]) rfl ?_
      refine rw_if_eq_f (tgt := 63) d_Mod_at_51 (by decide) (by decide) ?_
      refine rw_aload_n d_Mod_at_54 rfl (by first | exact mm_ref_r _ | exact mm_ref_n | exact mm_ref_o _) ?_
      refine rw_get d_Mod_at_55 fF_Mod_13 h0 rfl ?_
      refine rw_iload_n d_Mod_at_58 rfl ?_
      refine rw_zald d_Mod_at_59 h2 (vp_in_nI hk40 (by omega)) ?_
      rw [nI_c (by omega), (t1 kx hk40).2]
      cases hb : (tab cm td).1 kx with
      | false =>
        refine rw_if_ne_f (tgt := 65) d_Mod_at_60 (by decide) (by decide) ?_
        refine rw_lconst (v := 0) d_Mod_at_63 (by decide) ?_
        refine rw_lret d_Mod_at_64 rfl (fin _ ?_)
        rw [hb, tab_z td kx hb]
        split <;> rfl
      | true =>
        refine rw_if_ne_t (tgt := 65) d_Mod_at_60 (by decide) (by decide) ?_
        refine rw_iload_n d_Mod_at_65 rfl ?_
        rcases (show ww = 0 ∨ ww = 1 by omega) with rfl | rfl
        · refine rw_if_ne_f (tgt := 73) d_Mod_at_66 (by decide) (rfl) ?_
          refine rw_lconst (v := 1) d_Mod_at_69 (by decide) ?_
          refine rw_goto (tgt := 80) d_Mod_at_70 (by decide) ?_
          refine rw_lret d_Mod_at_80 rfl (fin _ ?_)
          rw [hb, if_pos (show nI 0 = 0 from rfl)]
          rfl
        · refine rw_if_ne_t (tgt := 73) d_Mod_at_66 (by decide) (by decide) ?_
          refine rw_aload_n d_Mod_at_73 rfl (by first | exact mm_ref_r _ | exact mm_ref_n | exact mm_ref_o _) ?_
          refine rw_get d_Mod_at_74 fF_Mod_7 h0 rfl ?_
          refine rw_iload_n d_Mod_at_77 rfl ?_
          refine rw_iald d_Mod_at_78 h1 (vp_in_nI hk40 (by omega)) ?_
          refine rw_i2l d_Mod_at_79 rfl ?_
          refine rw_lret d_Mod_at_80 rfl (fin _ ?_)
          rw [if_neg (by decide), nI_c (by omega), (t1 kx hk40).1]
    · have ek : pKd E td nn = 0 := by rw [pKd, if_neg cb]
      rw [ek] at fin
      rw [decide_eq_false cb]
      refine rw_stk (st' := [.int (bI false)]) rfl ?_
      refine rw_if_eq_t (tgt := 63) d_Mod_at_51 (by decide) (rfl) ?_
      refine rw_lconst (v := 0) d_Mod_at_63 (by decide) ?_
      refine rw_lret d_Mod_at_64 rfl (fin _ ?_)
      split <;> rfl
/-- how many bits of the first n are set -/
def pBits (u : Nat) : Nat → Nat
  | 0 => 0
  | n + 1 => pBits u n + (if u.testBit n then 1 else 0)
def mCnt (E : pE) (td gv up ep cl : Nat) (k : Int32) : Int32 :=
  if k = 0 then nI gv else if k = 1 then nI (gv - td) else if k = 2 then nI ep else if k = 3 then nI (pBits up (eN E)) else if k = 4 then nI (E.2.2 ep) else if k = 5 then nI cl else -1
set_option maxRecDepth 100000 in
theorem c_mCount {k : Int32} (hN : eN E < 7) (h : MoP M mo aa L E cm td gv up ep cl) : CT l G Y_Mod_count ds_Mod_count (rm 1) [.ref mo, .int k] M sz (fun r M' sz' => r = some (.int (mCnt E td gv up ep cl k)) ∧ M' = M ∧ sz' = sz) := by
  obtain ⟨vv, hh, kk, ke, wi, an, h0, h1, h2, h3, h4, h5, h6, ⟨a1, a2, a3, a4, a5, a6, a7, a8, a9⟩, t1, t2, t3⟩ := id h
  have tail : RW l G Y_Mod_count (rm 1) (mm_Z G (rm 1) (fun r M' sz' => r = some (.int (mCnt E td gv up ep cl k)) ∧ M' = M ∧ sz' = sz)) 0 0 29 [(0, .ref mo), (1, .int k), (2, .int (nI (pBits up (eN E)))), (3, .int (nI (eN E)))] [] M sz := by
    refine rw_iload_n d_Mod_count_29 rfl ?_
    by_cases c0 : k = 0
    · subst c0
      refine rw_tabIn (off := 38) (tgt := 68) d_Mod_count_30 (by decide) (by decide) (by decide) (by decide) ?_
      refine rw_aload_n d_Mod_count_68 rfl (by first | exact mm_ref_r _ | exact mm_ref_n | exact mm_ref_o _) ?_
      refine rw_get d_Mod_count_69 fF_Mod_49 h0 rfl ?_
      exact rw_iret d_Mod_count_72 rfl ⟨rfl, rfl, rfl⟩
    by_cases c1 : k = 1
    · subst c1
      refine rw_tabIn (off := 43) (tgt := 73) d_Mod_count_30 (by decide) (by decide) (by decide) (by decide) ?_
      refine rw_aload_n d_Mod_count_73 rfl (by first | exact mm_ref_r _ | exact mm_ref_n | exact mm_ref_o _) ?_
      refine rw_get d_Mod_count_74 fF_Mod_46 h0 rfl ?_
      exact rw_iret d_Mod_count_77 rfl ⟨rfl, rfl, rfl⟩
    by_cases c2 : k = 2
    · subst c2
      refine rw_tabIn (off := 48) (tgt := 78) d_Mod_count_30 (by decide) (by decide) (by decide) (by decide) ?_
      refine rw_aload_n d_Mod_count_78 rfl (by first | exact mm_ref_r _ | exact mm_ref_n | exact mm_ref_o _) ?_
      refine rw_get d_Mod_count_79 fF_Mod_30 h0 rfl ?_
      exact rw_iret d_Mod_count_82 rfl ⟨rfl, rfl, rfl⟩
    by_cases c3 : k = 3
    · subst c3
      refine rw_tabIn (off := 53) (tgt := 83) d_Mod_count_30 (by decide) (by decide) (by decide) (by decide) ?_
      refine rw_iload_n d_Mod_count_83 rfl ?_
      exact rw_iret d_Mod_count_84 rfl ⟨rfl, rfl, rfl⟩
    by_cases c4 : k = 4
    · subst c4
      refine rw_tabIn (off := 55) (tgt := 85) d_Mod_count_30 (by decide) (by decide) (by decide) (by decide) ?_
      refine rw_aload_n d_Mod_count_85 rfl (by first | exact mm_ref_r _ | exact mm_ref_n | exact mm_ref_o _) ?_
      refine rw_get d_Mod_count_86 fF_Mod_43 h0 rfl ?_
      exact rw_iret d_Mod_count_89 rfl ⟨rfl, rfl, rfl⟩
    by_cases c5 : k = 5
    · subst c5
      refine rw_tabIn (off := 60) (tgt := 90) d_Mod_count_30 (by decide) (by decide) (by decide) (by decide) ?_
      refine rw_aload_n d_Mod_count_90 rfl (by first | exact mm_ref_r _ | exact mm_ref_n | exact mm_ref_o _) ?_
      refine rw_get d_Mod_count_91 fF_Mod_52 h0 rfl ?_
      rcases (show cl = 0 ∨ cl = 1 by omega) with e | e
      · subst e
        refine rw_if_eq_t (tgt := 101) d_Mod_count_94 (by decide) (rfl) ?_
        refine rw_iconst (v := 0) d_Mod_count_101 (by decide) ?_
        exact rw_iret d_Mod_count_102 rfl ⟨rfl, rfl, rfl⟩
      · subst e
        refine rw_if_eq_f (tgt := 101) d_Mod_count_94 (by decide) (by decide) ?_
        refine rw_iconst (v := 1) d_Mod_count_97 (by decide) ?_
        refine rw_goto (tgt := 102) d_Mod_count_98 (by decide) ?_
        exact rw_iret d_Mod_count_102 rfl ⟨rfl, rfl, rfl⟩
    have e0 := i32_ne c0
    have e1 := i32_ne c1
    have e2 := i32_ne c2
    have e3 := i32_ne c3
    have e4 := i32_ne c4
    have e5 := i32_ne c5
    rw [show (0 : Int32).toInt = 0 by decide] at e0
    rw [show (1 : Int32).toInt = 1 by decide] at e1
    rw [show (2 : Int32).toInt = 2 by decide] at e2
    rw [show (3 : Int32).toInt = 3 by decide] at e3
    rw [show (4 : Int32).toInt = 4 by decide] at e4
    rw [show (5 : Int32).toInt = 5 by decide] at e5
    refine rw_tabOut (tgt := 103) d_Mod_count_30 (by omega) (by decide) ?_
    refine rw_iconst (v := (-1)) d_Mod_count_103 (by decide) ?_
    refine rw_iret d_Mod_count_104 rfl ⟨?_, rfl, rfl⟩
    rw [mCnt, if_neg c0, if_neg c1, if_neg c2, if_neg c3, if_neg c4, if_neg c5]
  have loop : ∀ m n, m + n = eN E → RW l G Y_Mod_count (rm 1) (mm_Z G (rm 1) (fun r M' sz' => r = some (.int (mCnt E td gv up ep cl k)) ∧ M' = M ∧ sz' = sz)) 0 0 4 [(0, .ref mo), (1, .int k), (2, .int (nI (pBits up n))), (3, .int (nI n))] [] M sz := by
    intro m
    induction m with
    | zero =>
      intro n hn
      have : n = eN E := by omega
      subst this
      refine rw_iload_n d_Mod_count_4 rfl ?_
      refine rw_aload_n d_Mod_count_5 rfl (by first | exact mm_ref_r _ | exact mm_ref_n | exact mm_ref_o _) ?_
      refine rw_get d_Mod_count_6 fF_Mod_34 h0 rfl ?_
      refine rw_icmp_ge_t (tgt := 29) d_Mod_count_9 (by decide) (nI_le (a := eN E) (b := eN E) (by omega) (by omega)) ?_
      exact tail
    | succ m ih =>
      intro n hn
      refine rw_iload_n d_Mod_count_4 rfl ?_
      refine rw_aload_n d_Mod_count_5 rfl (by first | exact mm_ref_r _ | exact mm_ref_n | exact mm_ref_o _) ?_
      refine rw_get d_Mod_count_6 fF_Mod_34 h0 rfl ?_
      refine rw_icmp_ge_f (tgt := 29) d_Mod_count_9 (by decide) (nI_ge (a := n) (b := eN E) (by omega) (by omega)) ?_
      refine rw_iload_n d_Mod_count_12 rfl ?_
      refine rw_aload_n d_Mod_count_13 rfl (by first | exact mm_ref_r _ | exact mm_ref_n | exact mm_ref_o _) ?_
      refine rw_get d_Mod_count_14 fF_Mod_40 h0 rfl ?_
      refine rw_iload_n d_Mod_count_17 rfl ?_
      refine rw_ishr d_Mod_count_18 ?_
      refine rw_iconst (v := 1) d_Mod_count_19 (by decide) ?_
      refine rw_iand d_Mod_count_20 ?_
      rw [up_bit up a7 n (by omega)]
      refine rw_iadd d_Mod_count_21 ?_
      refine rw_istore_n d_Mod_count_22 (by decide) rfl ?_
      refine rw_iinc d_Mod_count_23 (by decide) rfl rfl rfl ?_
      refine rw_lv (lv' := [(0, .ref mo), (1, .int k), (2, .int (nI (pBits up (n + 1)))), (3, .int (nI (n + 1)))]) (by
        have e : nI (pBits up n) + bI (up.testBit n) = nI (pBits up (n + 1)) := by
          rw [pBits]
          cases up.testBit n with
          | false => rw [if_neg (by decide)]; simp [bI]
          | true => rw [if_pos rfl, ← nI_1]; rfl
        rw [← e, ← nI_1]; intro q hq; simp at hq; rcases hq with rfl | rfl | rfl | rfl <;> rfl) ?_
      refine rw_goto (tgt := 4) d_Mod_count_26 (by decide) ?_
      exact ih (n + 1) (by omega)
  refine CT.of (by decide) (Nat.le_of_ble_eq_true rfl) ?_
  refine rw_iconst (v := 0) d_Mod_count_0 (by decide) ?_
  refine rw_istore_n d_Mod_count_1 (by decide) rfl ?_
  refine rw_iconst (v := 0) d_Mod_count_2 (by decide) ?_
  refine rw_istore_n d_Mod_count_3 (by decide) rfl ?_
  refine rw_lv (lv' := [(0, .ref mo), (1, .int k), (2, .int (nI (pBits up 0))), (3, .int (nI 0))]) (by intro q hq; simp at hq; rcases hq with rfl | rfl | rfl | rfl <;> rfl) ?_
  exact loop (eN E) 0 (by omega)
end MODASKS
