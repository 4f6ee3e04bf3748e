/-! The reference: settle. -/
section MODSETTLE
variable {l : Launch} {G : mm_G} {M : mm_M} {sz : Nat} {E : pE} {cm : Nat → pCm} {mo aa L td gv up ep cl : Nat}
theorem MtP.kept {M' : mm_M} {t : pT} (h : MtP M mo t) (e1 : M' (mo + 1) = M (mo + 1)) (e2 : M' (mo + 2) = M (mo + 2)) : MtP M' mo t := by
  obtain ⟨vv, hh, h1, h2, h3⟩ := h
  exact ⟨vv, hh, e1.trans h1, e2.trans h2, h3⟩
/-- behind settle -/
def MsQ (M : mm_M) (sz mo aa L : Nat) (E : pE) (cm : Nat → pCm) (td gv ep : Nat) : Option Value → mm_M → Nat → Prop := fun r M' sz' => r = some (.int (nI (gv - td))) ∧ ∃ aa' L', MoP M' mo aa' L' E cm gv gv (2 ^ eN E - 1) (ep + 1) 1 ∧ ((aa' = aa ∧ sz' = sz) ∨ (aa' = sz ∧ sz' = sz + 1)) ∧ ∀ q, q < sz → (q < mo ∨ mo + 6 ≤ q) → q ≠ aa → M' q = M q
theorem all_lt64 : ∀ N, N < 7 → 2 ^ N - 1 < 64 := by decide
set_option maxRecDepth 100000 in
theorem msettle_loop {M0 : mm_M} {aa' L' sz' : Nat} {kk ke wi : Nat → Int32} (hN : eN E < 7) (hE : E.2.2 (ep + 1) = 2 ^ eN E - 1) (hep : ep + 1 < 1000000) (a1 : td ≤ gv) (a2 : gv ≤ td + 8) (a3 : gv ≤ 512) (a4 : gv ≤ L') (a6 : L' ≤ 1024) (a5 : mo + 6 ≤ aa') (hcm : ∀ i, i < gv → cOk (cm i))
    (h3 : M0 (mo + 3) = some (aI 8 kk)) (h4 : M0 (mo + 4) = some (aI 8 ke)) (h5 : M0 (mo + 5) = some (aI 8 wi)) (h0 : M0 mo = some (moO mo aa' E td gv up ep cl)) (t2 : ∀ w, w < gv - td → kk w = nI (cm (td + w)).1 ∧ ke w = nI (cm (td + w)).2.1 ∧ wi w = (cm (td + w)).2.2)
    (hs : (aa' = aa ∧ sz' = sz) ∨ (aa' = sz ∧ sz' = sz + 1)) (hf : ∀ q, q < sz → (q < mo ∨ mo + 6 ≤ q) → q ≠ aa → M0 q = M q) :
    ∀ (m w : Nat) (M1 : mm_M) (an : Nat → Int64), m + w = gv - td → MtP M1 mo (tab cm (td + w)) → M1 aa' = some (aJ L' an) → (∀ i, i < td + w → an i = (tAns cm i).toInt64) → (∀ q, q ≠ mo + 1 → q ≠ mo + 2 → q ≠ aa' → M1 q = M0 q) →
    RW l G Y_Mod_settle (rmA 3 1 1024) (mm_Z G (rmA 3 1 1024) (MsQ M sz mo aa L E cm td gv ep)) 0 0 60 [(0, .ref mo), (1, .int (nI (gv - td))), (2, .int (nI w))] [] M1 sz' := by
  intro m
  induction m with
  | zero =>
    intro w M1 an hw ht ha hi hq
    have e0 := (hq mo (by omega) (by omega) (by omega)).trans h0
    have : w = gv - td := by omega
    subst this
    rw [show td + (gv - td) = gv by omega] at ht hi
    refine rw_iload_n d_Mod_settle_60 rfl ?_
    refine rw_iload_n d_Mod_settle_61 rfl ?_
    refine rw_icmp_ge_t (tgt := 89) d_Mod_settle_62 (by decide) (nI_le (a := gv - td) (b := gv - td) (by omega) (by omega)) ?_
    refine rw_aload_n d_Mod_settle_89 rfl (by first | exact mm_ref_r _ | exact mm_ref_n | exact mm_ref_o _) ?_
    refine rw_iconst (v := 0) d_Mod_settle_90 (by decide) ?_
    refine rw_put d_Mod_settle_91 (fP_Mod_46 _) e0 (Nat.le_of_ble_eq_true rfl) (by first | rfl | assumption | decide) (by first | rfl | assumption | decide) ?_
    refine rw_aload_n d_Mod_settle_94 rfl (by first | exact mm_ref_r _ | exact mm_ref_n | exact mm_ref_o _) ?_
    refine rw_iconst (v := 1) d_Mod_settle_95 (by decide) ?_
    refine rw_aload_n d_Mod_settle_96 rfl (by first | exact mm_ref_r _ | exact mm_ref_n | exact mm_ref_o _) ?_
    refine rw_get d_Mod_settle_97 fF_Mod_34 (mup_self _ _ _) rfl ?_
    refine rw_ishl d_Mod_settle_100 ?_
    refine rw_iconst (v := 1) d_Mod_settle_101 (by decide) ?_
    refine rw_isub d_Mod_settle_102 ?_
    rw [all_val _ hN]
    refine rw_put d_Mod_settle_103 (fP_Mod_40 _) (mup_self _ _ _) (Nat.le_of_ble_eq_true rfl) (by first | rfl | assumption | decide) (by first | rfl | assumption | decide) ?_
    refine rw_aload_n d_Mod_settle_106 rfl (by first | exact mm_ref_r _ | exact mm_ref_n | exact mm_ref_o _) ?_
    refine rw_aload_n d_Mod_settle_107 rfl (by first | exact mm_ref_r _ | exact mm_ref_n | exact mm_ref_o _) ?_
    refine rw_get d_Mod_settle_108 fF_Mod_40 (mup_self _ _ _) rfl ?_
    refine rw_put d_Mod_settle_111 (fP_Mod_43 _) (mup_self _ _ _) (Nat.le_of_ble_eq_true rfl) (by first | rfl | assumption | decide) (by first | rfl | assumption | decide) ?_
    refine rw_aload_n d_Mod_settle_114 rfl (by first | exact mm_ref_r _ | exact mm_ref_n | exact mm_ref_o _) ?_
    refine rw_dup d_Mod_settle_115 rfl ?_
    refine rw_get d_Mod_settle_116 fF_Mod_30 (mup_self _ _ _) rfl ?_
    refine rw_iconst (v := 1) d_Mod_settle_119 (by decide) ?_
    refine rw_iadd d_Mod_settle_120 ?_
    rw [nI_1]
    refine rw_put d_Mod_settle_121 (fP_Mod_30 _) (mup_self _ _ _) (Nat.le_of_ble_eq_true rfl) (by first | rfl | assumption | decide) (by first | rfl | assumption | decide) ?_
    refine rw_aload_n d_Mod_settle_124 rfl (by first | exact mm_ref_r _ | exact mm_ref_n | exact mm_ref_o _) ?_
    refine rw_iconst (v := 1) d_Mod_settle_125 (by decide) ?_
    refine rw_put d_Mod_settle_126 (fP_Mod_52 _) (mup_self _ _ _) (Nat.le_of_ble_eq_true rfl) (by first | rfl | assumption | decide) (by first | rfl | assumption | decide) ?_
    refine rw_iload_n d_Mod_settle_129 rfl ?_
    obtain ⟨vv, hh, r1, r2, r3⟩ := ht
    refine rw_iret d_Mod_settle_130 rfl ⟨rfl, aa', L', ⟨vv, hh, kk, ke, wi, an, ?_, ?_, ?_, ?_, ?_, ?_, ?_, ⟨by omega, by omega, a3, a4, a5, a6, all_lt64 _ hN, hep, by omega⟩, r3, fun j hj => by omega, hi⟩, hs, fun q z1 z2 z3 => ?_⟩
    · rw [mup_self]
      simp only [moO]
      rw [hE, Nat.sub_self]
      rfl
    · rw [mup_ne _ _ (by omega), mup_ne _ _ (by omega), mup_ne _ _ (by omega), mup_ne _ _ (by omega), mup_ne _ _ (by omega)]
      exact r1
    · rw [mup_ne _ _ (by omega), mup_ne _ _ (by omega), mup_ne _ _ (by omega), mup_ne _ _ (by omega), mup_ne _ _ (by omega)]
      exact r2
    · rw [mup_ne _ _ (by omega), mup_ne _ _ (by omega), mup_ne _ _ (by omega), mup_ne _ _ (by omega), mup_ne _ _ (by omega), hq _ (by omega) (by omega) (by omega)]
      exact h3
    · rw [mup_ne _ _ (by omega), mup_ne _ _ (by omega), mup_ne _ _ (by omega), mup_ne _ _ (by omega), mup_ne _ _ (by omega), hq _ (by omega) (by omega) (by omega)]
      exact h4
    · rw [mup_ne _ _ (by omega), mup_ne _ _ (by omega), mup_ne _ _ (by omega), mup_ne _ _ (by omega), mup_ne _ _ (by omega), hq _ (by omega) (by omega) (by omega)]
      exact h5
    · rw [mup_ne _ _ (by omega), mup_ne _ _ (by omega), mup_ne _ _ (by omega), mup_ne _ _ (by omega), mup_ne _ _ (by omega)]
      exact ha
    · rw [mup_ne _ _ (by omega), mup_ne _ _ (by omega), mup_ne _ _ (by omega), mup_ne _ _ (by omega), mup_ne _ _ (by omega), hq _ (by omega) (by omega) (by omega)]
      exact hf q z1 z2 z3
  | succ m ih =>
    intro w M1 an hw ht ha hi hq
    have e0 := (hq mo (by omega) (by omega) (by omega)).trans h0
    obtain ⟨k1, k2, k3⟩ := t2 w (by omega)
    refine rw_iload_n d_Mod_settle_60 rfl ?_
    refine rw_iload_n d_Mod_settle_61 rfl ?_
    refine rw_icmp_ge_f (tgt := 89) d_Mod_settle_62 (by decide) (nI_ge (a := w) (b := gv - td) (by omega) (by omega)) ?_
    refine rw_aload_n d_Mod_settle_65 rfl (by first | exact mm_ref_r _ | exact mm_ref_n | exact mm_ref_o _) ?_
    refine rw_get d_Mod_settle_66 fF_Mod_26 e0 rfl ?_
    refine rw_aload_n d_Mod_settle_69 rfl (by first | exact mm_ref_r _ | exact mm_ref_n | exact mm_ref_o _) ?_
    refine rw_get d_Mod_settle_70 fF_Mod_49 e0 rfl ?_
    refine rw_iload_n d_Mod_settle_73 rfl ?_
    refine rw_isub d_Mod_settle_74 ?_
    rw [nI_sub (show gv - td ≤ gv by omega), show gv - (gv - td) = td by omega]
    refine rw_iload_n d_Mod_settle_75 rfl ?_
    refine rw_iadd d_Mod_settle_76 ?_
    rw [nI_add]
    refine rw_aload_n d_Mod_settle_77 rfl (by first | exact mm_ref_r _ | exact mm_ref_n | exact mm_ref_o _) ?_
    refine rw_iload_n d_Mod_settle_78 rfl ?_
    refine rw_callV (kc := 0) (ks := 0) (rest := [.int (nI (td + w)), .ref aa']) d_Mod_settle_79 (c_mAct (w := w) (c := cm (td + w)) (by omega) e0 ht (tab_z _) ((hq _ (by omega) (by omega) (by omega)).trans h3) ((hq _ (by omega) (by omega) (by omega)).trans h4) ((hq _ (by omega) (by omega) (by omega)).trans h5) k1 k2 k3 (hcm _ (by omega))) mW_Mod_act mL_Mod_64 mI_Mod_act mE_Mod_act ⟨by decide, by decide⟩ e0 rfl rfl rfl rfl (Nat.le_of_ble_eq_true rfl) (fun r M2 sz2 hz => ?_)
    obtain ⟨rfl, rfl, q1, q2⟩ := hz
    refine rw_stk (st' := [.long (tAns cm (td + w)).toInt64, .int (nI (td + w)), .ref aa']) rfl ?_
    refine rw_last d_Mod_settle_82 ((q2 aa' (by omega) (by omega)).trans ha) (vp_in_nI (show td + w < L' by omega) (by omega)) ?_
    rw [nI_c (by omega)]
    refine rw_iinc d_Mod_settle_83 (by decide) rfl rfl rfl ?_
    refine rw_lv (lv' := [(0, .ref mo), (1, .int (nI (gv - td))), (2, .int (nI (w + 1)))]) (by rw [← nI_1]; intro q hq; simp at hq; rcases hq with rfl | rfl | rfl <;> rfl) ?_
    refine rw_goto (tgt := 60) d_Mod_settle_86 (by decide) ?_
    refine ih (w + 1) _ (va_up an (td + w) (tAns cm (td + w)).toInt64) (by omega) (q1.kept (mup_ne _ _ (by omega)) (mup_ne _ _ (by omega))) (mup_self _ _ _) (fun i hi2 => ?_) (fun q z1 z2 z3 => ?_)
    · by_cases z : i = td + w
      · subst z
        rw [va_up_self]
      · rw [va_up_ne _ _ z]
        exact hi i (by omega)
    · rw [mup_ne _ _ z3, q2 q z1 z2]
      exact hq q z1 z2 z3
set_option maxRecDepth 100000 in
theorem msettle_copy (hN : eN E < 7) (hE : E.2.2 (ep + 1) = 2 ^ eN E - 1) (hep : ep + 1 < 1000000) (hcm : ∀ i, i < gv → cOk (cm i)) (h : MoP M mo aa L E cm td gv up ep cl) (hsz : mo + 6 ≤ sz) (hsa : aa < sz) :
    ∀ (m c : Nat) (M1 : mm_M) (an : Nat → Int64), m + c = td → M1 sz = some (aJ (2 * gv) an) → (∀ i, i < c → an i = (tAns cm i).toInt64) → (∀ q, q ≠ sz → M1 q = M q) →
    RW l G Y_Mod_settle (rmA 3 1 1024) (mm_Z G (rmA 3 1 1024) (MsQ M sz mo aa L E cm td gv ep)) 0 0 28 [(0, .ref mo), (1, .int (nI (gv - td))), (2, .ref sz), (3, .int (nI c))] [] M1 (sz + 1) := by
  obtain ⟨vv, hh, kk, ke, wi, an0, h0, h1, h2, h3, h4, h5, h6, ⟨a1, a2, a3, a4, a5, a6, a7, a8, a9⟩, t1, t2, t3⟩ := id h
  intro m
  induction m with
  | zero =>
    intro c M1 an hc ha hi hq
    have e0 := (hq mo (by omega)).trans h0
    have : c = td := by omega
    subst this
    refine rw_iload_n d_Mod_settle_28 rfl ?_
    refine rw_aload_n d_Mod_settle_29 rfl (by first | exact mm_ref_r _ | exact mm_ref_n | exact mm_ref_o _) ?_
    refine rw_get d_Mod_settle_30 fF_Mod_49 e0 rfl ?_
    refine rw_iload_n d_Mod_settle_33 rfl ?_
    refine rw_isub d_Mod_settle_34 ?_
    rw [nI_sub (show gv - c ≤ gv by omega), show gv - (gv - c) = c by omega]
    refine rw_icmp_ge_t (tgt := 53) d_Mod_settle_35 (by decide) (nI_le (a := c) (b := c) (by omega) (by omega)) ?_
    refine rw_aload_n d_Mod_settle_53 rfl (by first | exact mm_ref_r _ | exact mm_ref_n | exact mm_ref_o _) ?_
    refine rw_aload_n d_Mod_settle_54 rfl (by first | exact mm_ref_r _ | exact mm_ref_n | exact mm_ref_o _) ?_
    refine rw_put d_Mod_settle_55 (fP_Mod_26 _) e0 (Nat.le_of_ble_eq_true rfl) (by first | rfl | assumption | decide) (by first | rfl | assumption | decide) ?_
    refine rw_iconst (v := 0) d_Mod_settle_58 (by decide) ?_
    refine rw_istore_n d_Mod_settle_59 (by decide) rfl ?_
    refine rw_lv (lv' := [(0, .ref mo), (1, .int (nI (gv - c))), (2, .int (nI 0))]) (by intro q hq; simp at hq; rcases hq with rfl | rfl | rfl <;> rfl) ?_
    refine msettle_loop (aa := aa) (aa' := sz) (L' := 2 * gv) (L := L) (up := up) (cl := cl) (kk := kk) (ke := ke) (wi := wi) hN hE hep a1 a2 a3 (by omega) (by omega) hsz hcm ((mup_ne _ _ (by omega)).trans ((hq _ (by omega)).trans h3)) ((mup_ne _ _ (by omega)).trans ((hq _ (by omega)).trans h4)) ((mup_ne _ _ (by omega)).trans ((hq _ (by omega)).trans h5)) (mup_self _ _ _) t2 (Or.inr ⟨rfl, rfl⟩) (fun q z1 z2 z3 => ?_) (gv - c) 0 _ an (by omega) ?_ ?_ hi (fun q _ _ _ => rfl)
    · rw [mup_ne _ _ (by omega)]
      exact hq q (by omega)
    · exact ⟨vv, hh, (mup_ne _ _ (by omega)).trans ((hq _ (by omega)).trans h1), (mup_ne _ _ (by omega)).trans ((hq _ (by omega)).trans h2), t1⟩
    · rw [mup_ne _ _ (by omega)]
      exact ha
  | succ m ih =>
    intro c M1 an hc ha hi hq
    have e0 := (hq mo (by omega)).trans h0
    refine rw_iload_n d_Mod_settle_28 rfl ?_
    refine rw_aload_n d_Mod_settle_29 rfl (by first | exact mm_ref_r _ | exact mm_ref_n | exact mm_ref_o _) ?_
    refine rw_get d_Mod_settle_30 fF_Mod_49 e0 rfl ?_
    refine rw_iload_n d_Mod_settle_33 rfl ?_
    refine rw_isub d_Mod_settle_34 ?_
    rw [nI_sub (show gv - td ≤ gv by omega), show gv - (gv - td) = td by omega]
    refine rw_icmp_ge_f (tgt := 53) d_Mod_settle_35 (by decide) (nI_ge (a := c) (b := td) (by omega) (by omega)) ?_
    refine rw_aload_n d_Mod_settle_38 rfl (by first | exact mm_ref_r _ | exact mm_ref_n | exact mm_ref_o _) ?_
    refine rw_iload_n d_Mod_settle_39 rfl ?_
    refine rw_aload_n d_Mod_settle_40 rfl (by first | exact mm_ref_r _ | exact mm_ref_n | exact mm_ref_o _) ?_
    refine rw_get d_Mod_settle_41 fF_Mod_26 e0 rfl ?_
    refine rw_iload_n d_Mod_settle_44 rfl ?_
    refine rw_lald d_Mod_settle_45 ((hq aa (by omega)).trans h6) (vp_in_nI (show c < L by omega) (by omega)) ?_
    rw [nI_c (by omega)]
    refine rw_last d_Mod_settle_46 ha (vp_in_nI (show c < 2 * gv by omega) (by omega)) ?_
    rw [nI_c (by omega)]
    refine rw_iinc d_Mod_settle_47 (by decide) rfl rfl rfl ?_
    refine rw_lv (lv' := [(0, .ref mo), (1, .int (nI (gv - td))), (2, .ref sz), (3, .int (nI (c + 1)))]) (by rw [← nI_1]; intro q hq; simp at hq; rcases hq with rfl | rfl | rfl | rfl <;> rfl) ?_
    refine rw_goto (tgt := 28) d_Mod_settle_50 (by decide) ?_
    refine ih (c + 1) _ (va_up an c (an0 c)) (by omega) (mup_self _ _ _) (fun i hi2 => ?_) (fun q z1 => ?_)
    · by_cases z : i = c
      · subst z
        rw [va_up_self]
        exact t3 i (by omega)
      · rw [va_up_ne _ _ z]
        exact hi i (by omega)
    · rw [mup_ne _ _ z1]
      exact hq q z1
set_option maxRecDepth 100000 in
theorem c_mSettle (hN : eN E < 7) (hE : E.2.2 (ep + 1) = 2 ^ eN E - 1) (hep : ep + 1 < 1000000) (hcm : ∀ i, i < gv → cOk (cm i)) (h : MoP M mo aa L E cm td gv up ep cl) (hsz : mo + 6 ≤ sz) (hsa : aa < sz) : CT l G Y_Mod_settle ds_Mod_settle (rmA 3 1 1024) [.ref mo] M sz (MsQ M sz mo aa L E cm td gv ep) := by
  obtain ⟨vv, hh, kk, ke, wi, an0, h0, h1, h2, h3, h4, h5, h6, ⟨a1, a2, a3, a4, a5, a6, a7, a8, a9⟩, t1, t2, t3⟩ := id h
  refine CT.of (by decide) (Nat.le_of_ble_eq_true rfl) ?_
  refine rw_aload_n d_Mod_settle_0 rfl (by first | exact mm_ref_r _ | exact mm_ref_n | exact mm_ref_o _) ?_
  refine rw_get d_Mod_settle_1 fF_Mod_46 h0 rfl ?_
  refine rw_istore_n d_Mod_settle_4 (by decide) rfl ?_
  refine rw_aload_n d_Mod_settle_5 rfl (by first | exact mm_ref_r _ | exact mm_ref_n | exact mm_ref_o _) ?_
  refine rw_get d_Mod_settle_6 fF_Mod_49 h0 rfl ?_
  refine rw_aload_n d_Mod_settle_9 rfl (by first | exact mm_ref_r _ | exact mm_ref_n | exact mm_ref_o _) ?_
  refine rw_get d_Mod_settle_10 fF_Mod_26 h0 rfl ?_
  refine rw_alen d_Mod_settle_13 h6 (by decide) rfl ?_
  refine rw_stk (st' := [.int (nI L), .int (nI gv)]) rfl ?_
  by_cases c : gv ≤ L
  · refine rw_icmp_le_t (tgt := 58) d_Mod_settle_14 (by decide) (nI_le (a := gv) (b := L) c (by omega)) ?_
    refine rw_iconst (v := 0) d_Mod_settle_58 (by decide) ?_
    refine rw_istore_n d_Mod_settle_59 (by decide) rfl ?_
    refine rw_lv (lv' := [(0, .ref mo), (1, .int (nI (gv - td))), (2, .int (nI 0))]) (by intro q hq; simp at hq; rcases hq with rfl | rfl | rfl <;> rfl) ?_
    refine rw_fewer (kc' := 0) (ks' := 0) (Nat.zero_le _) (Nat.zero_le _) ?_
    exact msettle_loop (aa := aa) (aa' := aa) (L' := L) (L := L) (up := up) (cl := cl) (kk := kk) (ke := ke) (wi := wi) hN hE hep a1 a2 a3 c a6 a5 hcm h3 h4 h5 h0 t2 (Or.inl ⟨rfl, rfl⟩) (fun q _ _ _ => rfl) (gv - td) 0 _ an0 (by omega) ⟨vv, hh, h1, h2, t1⟩ h6 t3 (fun q _ _ _ => rfl)
  · refine rw_icmp_le_f (tgt := 58) d_Mod_settle_14 (by decide) (fun z => c ((nI_leI (by omega) (by omega)).mp z)) ?_
    refine rw_iconst (v := 2) d_Mod_settle_17 (by decide) ?_
    refine rw_aload_n d_Mod_settle_18 rfl (by first | exact mm_ref_r _ | exact mm_ref_n | exact mm_ref_o _) ?_
    refine rw_get d_Mod_settle_19 fF_Mod_49 h0 rfl ?_
    refine rw_imul d_Mod_settle_22 ?_
    refine rw_stk (st' := [.int (nI (2 * gv))]) (by rw [← nI_mul]; rfl) ?_
    refine rw_fewer (kc' := 0 + 1) (ks' := 0 + 2 * gv) (Nat.le_of_ble_eq_true rfl) (by show 0 + 2 * gv ≤ 1024; omega) ?_
    refine rw_newa (t := 2) (N := 2 * gv) (a0 := (2 * gv, .inr (.inl (fun _ => 0)))) d_Mod_settle_23 rfl (by decide) aC_long (nI_pos (by omega)) (nI_c (by omega)) (by simp [mm_ty, componentBytes]; omega) (fun _ => rfl) ?_
    refine rw_astore_n d_Mod_settle_25 (by decide) (by first | exact mm_ref_r _ | exact mm_ref_n | exact mm_ref_o _) rfl ?_
    refine rw_iconst (v := 0) d_Mod_settle_26 (by decide) ?_
    refine rw_istore_n d_Mod_settle_27 (by decide) rfl ?_
    refine rw_lv (lv' := [(0, .ref mo), (1, .int (nI (gv - td))), (2, .ref sz), (3, .int (nI 0))]) (by intro q hq; simp at hq; rcases hq with rfl | rfl | rfl | rfl <;> rfl) ?_
    exact msettle_copy hN hE hep hcm h hsz hsa td 0 _ (fun _ => 0) (by omega) (mup_self _ _ _) (fun i hi => by omega) (fun q hq => mup_ne _ _ hq)
end MODSETTLE
