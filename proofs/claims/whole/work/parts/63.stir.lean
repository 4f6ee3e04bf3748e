/-! VersionGroup: tick, stir. -/
section STIR
variable {l : Launch} {G : mm_G} {sz : Nat} {ca : Nat → Nat} {cm : Nat → pCm} {g : Nat} {E : pE} {v : Nat} {J : pSt → Prop}
/-- a call with a number in a range: -1, or the number back -/
def TkQ (G : mm_G) (M : mm_M) (sz : Nat) (ca : Nat → Nat) (cm : Nat → pCm) (g : Nat) (E : pE) (v : Nat) (J : pSt → Prop) (n hi : Int32) : Option Value → mm_M → Nat → Prop := fun r M' sz' => sz' = sz ∧ (((n < 1 ∨ hi < n) ∧ r = some (.int (-1)) ∧ M' = M) ∨ (¬ (n < 1 ∨ hi < n) ∧ r = some (.int n) ∧ (∃ s : pSt, J s ∧ VgP G M' ca cm g E v s.1 s.2.1 s.2.2) ∧ Fr M M' v (vgN E)))
set_option maxRecDepth 100000 in
theorem tickn_loop {M : mm_M} {n : Nat} (hJ : Jc E J) (hn : n < 1000) (hr : ¬ (nI n < 1 ∨ (50 : Int32) < nI n)) : ∀ (m k : Nat) (M1 : mm_M) (s : pSt), m + k = n → J s → VgP G M1 ca cm g E v s.1 s.2.1 s.2.2 → Fr M M1 v (vgN E) →
    RW l G Y_VG_tick (rm 8) (mm_Z G (rm 8) (TkQ G M sz ca cm g E v J (nI n) 50)) 0 0 20 [(0, .ref v), (1, .int (nI n)), (2, .int (nI k))] [] M1 sz := by
  intro m
  induction m with
  | zero =>
    intro k M1 s hk hs h hF
    refine rw_iload_n d_VG_tick_20 rfl ?_
    refine rw_iload_n d_VG_tick_21 rfl ?_
    refine rw_icmp_ge_t (tgt := 35) d_VG_tick_22 (by decide) (nI_le (by omega) (by omega)) ?_
    refine rw_iload_n d_VG_tick_35 rfl ?_
    exact rw_iret d_VG_tick_36 rfl ⟨rfl, Or.inr ⟨hr, rfl, ⟨s, hs, h⟩, hF⟩⟩
  | succ m ih =>
    intro k M1 s hk hs h hF
    refine rw_iload_n d_VG_tick_20 rfl ?_
    refine rw_iload_n d_VG_tick_21 rfl ?_
    refine rw_icmp_ge_f (tgt := 35) d_VG_tick_22 (by decide) (nI_ge (by omega) (by omega)) ?_
    refine rw_aload_n d_VG_tick_25 rfl (by first | exact mm_ref_r _ | exact mm_ref_n | exact mm_ref_o _) ?_
    refine rw_callV (kc := 0) (ks := 0) (rest := []) d_VG_tick_26 (c_passOneTick h (hJ.1 s hs).2) mW_VG_passOneTick mL_VG_99 mI_VG_passOneTick mE_VG_passOneTick ⟨by decide, by decide⟩ h.1 rfl rfl rfl rfl (Nat.le_of_ble_eq_true rfl) (fun r M2 sz2 hq => ?_)
    obtain ⟨rfl, rfl, q1, q2⟩ := hq
    refine rw_stk (st' := []) rfl ?_
    refine rw_iinc d_VG_tick_29 (by decide) rfl rfl rfl ?_
    refine rw_lv (lv' := [(0, .ref v), (1, .int (nI n)), (2, .int (nI (k + 1)))]) (by rw [← nI_1]; intro q hq; simp at hq; rcases hq with rfl | rfl | rfl <;> rfl) ?_
    refine rw_goto (tgt := 20) d_VG_tick_32 (by decide) ?_
    exact ih (k + 1) M2 (pTick E s) (by omega) (hJ.2.2.2 s hs) q1 (hF.trans q2)
set_option maxRecDepth 100000 in
theorem c_tick {M : mm_M} {s : pSt} {n : Int32} (hJ : Jc E J) (hs : J (s.1, s.2.1, pu s.2.2 3 0)) (h : VgP G M ca cm g E v s.1 s.2.1 s.2.2) : CT l G Y_VG_tick ds_VG_tick (rm 8) [.ref v, .int n] M sz (TkQ G M sz ca cm g E v J n 50) := by
  have g1 : VgP G (mup M v (.inr (10, [.ref (v + 2), .ref (v + 330), .ref (v + 332), .ref (v + 336), .int 0]))) ca cm g E v s.1 s.2.1 (pu s.2.2 3 0) := h.calm (c := 0) (by omega) rfl
  refine CT.of (by decide) (Nat.le_of_ble_eq_true rfl) ?_
  refine rw_iload_n d_VG_tick_0 rfl ?_
  refine rw_iconst (v := 1) d_VG_tick_1 (by decide) ?_
  refine rw_icmp_lt (tgt := 11) d_VG_tick_2 (by decide) (fun c1 => ?_) (fun c1 => ?_)
  · refine rw_iconst (v := (-1)) d_VG_tick_11 (by decide) ?_
    exact rw_iret d_VG_tick_12 rfl ⟨rfl, Or.inl ⟨Or.inl c1, rfl, rfl⟩⟩
  · refine rw_iload_n d_VG_tick_5 rfl ?_
    refine rw_bipush (v := 50) d_VG_tick_6 (by decide) ?_
    refine rw_icmp_le (tgt := 13) d_VG_tick_8 (by decide) (fun c2 => ?_) (fun c2 => ?_)
    · refine rw_aload_n d_VG_tick_13 rfl (by first | exact mm_ref_r _ | exact mm_ref_n | exact mm_ref_o _) ?_
      refine rw_iconst (v := 0) d_VG_tick_14 (by decide) ?_
      refine rw_put d_VG_tick_15 (fP_VG_68 _) h.1 (Nat.le_of_ble_eq_true rfl) (by first | rfl | assumption | decide) (by first | rfl | assumption | decide) ?_
      refine rw_iconst (v := 0) d_VG_tick_18 (by decide) ?_
      refine rw_istore_n d_VG_tick_19 (by decide) rfl ?_
      have hn0 : ¬ n < 0 := fun z => c1 (Int32.lt_iff_toInt_lt.mpr (by have := Int32.lt_iff_toInt_lt.mp z; have h1 : (0 : Int32).toInt = 0 := (by decide); have h2 : (1 : Int32).toInt = 1 := (by decide); omega))
      obtain ⟨j, hj, rfl⟩ := nI_of2 (M := 50) (n := 50) (by decide) hn0 c2
      refine rw_lv (lv' := [(0, .ref v), (1, .int (nI j)), (2, .int (nI 0))]) (by intro q hq; simp at hq; rcases hq with rfl | rfl | rfl <;> rfl) ?_
      exact tickn_loop hJ (by omega) (fun z => z.elim c1 (fun w => Int32.not_lt.mpr c2 w)) j 0 _ (s.1, s.2.1, pu s.2.2 3 0) (by omega) hs g1 (fr_at0 (E := E))
    · refine rw_iconst (v := (-1)) d_VG_tick_11 (by decide) ?_
      exact rw_iret d_VG_tick_12 rfl ⟨rfl, Or.inl ⟨Or.inr (Int32.not_le.mp c2), rfl, rfl⟩⟩
set_option maxRecDepth 100000 in
theorem stir_loop {M : mm_M} {n : Nat} (hJ : Jc E J) (hn : n < 1000) (hr : ¬ (nI n < 1 ∨ (500 : Int32) < nI n)) : ∀ (m k : Nat) (M1 : mm_M) (s : pSt) (z : Int32), m + k = n → J s → VgP G M1 ca cm g E v s.1 s.2.1 s.2.2 → Fr M M1 v (vgN E) →
    RW l G Y_VG_stir (rm 8) (mm_Z G (rm 8) (TkQ G M sz ca cm g E v J (nI n) 500)) 0 0 24 [(0, .ref v), (1, .int (nI n)), (3, .int z), (4, .int (nI k))] [] M1 sz := by
  intro m
  induction m with
  | zero =>
    intro k M1 s z hk hs h hF
    refine rw_iload d_VG_stir_24 rfl ?_
    refine rw_iload_n d_VG_stir_26 rfl ?_
    refine rw_icmp_ge_t (tgt := 104) d_VG_stir_27 (by decide) (nI_le (by omega) (by omega)) ?_
    refine rw_iload_n d_VG_stir_104 rfl ?_
    exact rw_iret d_VG_stir_105 rfl ⟨rfl, Or.inr ⟨hr, rfl, ⟨s, hs, h⟩, hF⟩⟩
  | succ m ih =>
    intro k M1 s z hk hs h hF
    refine rw_iload d_VG_stir_24 rfl ?_
    refine rw_iload_n d_VG_stir_26 rfl ?_
    refine rw_icmp_ge_f (tgt := 104) d_VG_stir_27 (by decide) (nI_ge (by omega) (by omega)) ?_
    refine rw_iload_n d_VG_stir_30 rfl ?_
    refine rw_ldc d_VG_stir_31 kC_VG_98 ?_
    refine rw_imul d_VG_stir_33 ?_
    refine rw_sipush (v := 12345) d_VG_stir_34 (by decide) ?_
    refine rw_iadd d_VG_stir_37 ?_
    refine rw_topi (fun z1 _ => ?_)
    refine rw_istore_n d_VG_stir_38 (by decide) rfl ?_
    refine rw_iload_n d_VG_stir_39 rfl ?_
    refine rw_bipush (v := 8) d_VG_stir_40 (by decide) ?_
    refine rw_iushr d_VG_stir_42 rfl ?_
    refine rw_topi (fun z2 _ => ?_)
    refine rw_istore d_VG_stir_43 (by decide) rfl ?_
    refine rw_iload d_VG_stir_45 rfl ?_
    refine rw_bipush (v := 8) d_VG_stir_47 (by decide) ?_
    refine rw_irem d_VG_stir_49 (by decide) ?_
    refine rw_topi (fun z3 _ => ?_)
    refine rw_istore d_VG_stir_50 (by decide) rfl ?_
    refine rw_iload d_VG_stir_52 rfl ?_
    refine rw_bipush (v := 8) d_VG_stir_54 (by decide) ?_
    refine rw_idiv d_VG_stir_56 (by decide) ?_
    refine rw_topi (fun z4 _ => ?_)
    refine rw_istore d_VG_stir_57 (by decide) rfl ?_
    refine rw_lv (lv' := [(0, .ref v), (1, .int (nI n)), (3, .int z1), (4, .int (nI k)), (6, .int z3), (7, .int z4)]) (by intro q hq; simp at hq; rcases hq with rfl | rfl | rfl | rfl | rfl | rfl <;> rfl) ?_
    have next : ∀ (M2 : mm_M) (s2 : pSt), J s2 → VgP G M2 ca cm g E v s2.1 s2.2.1 s2.2.2 → Fr M M2 v (vgN E) → RW l G Y_VG_stir (rm 8) (mm_Z G (rm 8) (TkQ G M sz ca cm g E v J (nI n) 500)) 0 0 98 [(0, .ref v), (1, .int (nI n)), (3, .int z1), (4, .int (nI k)), (6, .int z3), (7, .int z4)] [] M2 sz := by
      intro M2 s2 y1 y2 y3
      refine rw_iinc d_VG_stir_98 (by decide) rfl rfl rfl ?_
      refine rw_lv (lv' := [(0, .ref v), (1, .int (nI n)), (3, .int z1), (4, .int (nI (k + 1)))]) (by rw [← nI_1]; intro q hq; simp at hq; rcases hq with rfl | rfl | rfl | rfl <;> rfl) ?_
      refine rw_goto (tgt := 24) d_VG_stir_101 (by decide) ?_
      exact ih (k + 1) M2 s2 z1 (by omega) y1 y2 y3
    refine rw_iload d_VG_stir_59 rfl ?_
    refine rw_iconst (v := 5) d_VG_stir_61 (by decide) ?_
    refine rw_icmp_ge (tgt := 75) d_VG_stir_62 (by decide) (fun c1 => ?_) (fun c1 => ?_)
    · refine rw_iload d_VG_stir_75 rfl ?_
      refine rw_bipush (v := 7) d_VG_stir_77 (by decide) ?_
      refine rw_icmp_ge (tgt := 91) d_VG_stir_79 (by decide) (fun c2 => ?_) (fun c2 => ?_)
      · refine rw_aload_n d_VG_stir_91 rfl (by first | exact mm_ref_r _ | exact mm_ref_n | exact mm_ref_o _) ?_
        refine rw_iload d_VG_stir_92 rfl ?_
        refine rw_iconst (v := 2) d_VG_stir_94 (by decide) ?_
        refine rw_callV (kc := 0) (ks := 0) (rest := []) d_VG_stir_95 (c_bring (k := z4) (t := 2) hJ (by omega) hs h) mW_VG_bring mL_VG_91 mI_VG_bring mE_VG_bring ⟨by decide, by decide⟩ h.1 rfl rfl rfl rfl (Nat.le_of_ble_eq_true rfl) (fun r M2 sz2 hq => ?_)
        obtain ⟨rfl, rfl, ⟨s2, y1, y2⟩, y3⟩ := hq
        refine rw_stk (st' := []) rfl ?_
        exact next M2 s2 y1 y2 (hF.trans y3)
      · refine rw_aload_n d_VG_stir_82 rfl (by first | exact mm_ref_r _ | exact mm_ref_n | exact mm_ref_o _) ?_
        refine rw_iload d_VG_stir_83 rfl ?_
        refine rw_callV (kc := 0) (ks := 0) (rest := []) d_VG_stir_85 (c_drop (k := z4) hJ hs h) mW_VG_drop mL_VG_94 mI_VG_drop mE_VG_drop ⟨by decide, by decide⟩ h.1 rfl rfl rfl rfl (Nat.le_of_ble_eq_true rfl) (fun r M2 sz2 hq => ?_)
        obtain ⟨rfl, rfl, ⟨s2, y1, y2⟩, y3⟩ := hq
        refine rw_stk (st' := []) rfl ?_
        refine rw_goto (tgt := 98) d_VG_stir_88 (by decide) ?_
        exact next M2 s2 y1 y2 (hF.trans y3)
    · refine rw_aload_n d_VG_stir_65 rfl (by first | exact mm_ref_r _ | exact mm_ref_n | exact mm_ref_o _) ?_
      refine rw_iload d_VG_stir_66 rfl ?_
      refine rw_iconst (v := 1) d_VG_stir_68 (by decide) ?_
      refine rw_callV (kc := 0) (ks := 0) (rest := []) d_VG_stir_69 (c_bring (k := z4) (t := 1) hJ (by omega) hs h) mW_VG_bring mL_VG_91 mI_VG_bring mE_VG_bring ⟨by decide, by decide⟩ h.1 rfl rfl rfl rfl (Nat.le_of_ble_eq_true rfl) (fun r M2 sz2 hq => ?_)
      obtain ⟨rfl, rfl, ⟨s2, y1, y2⟩, y3⟩ := hq
      refine rw_stk (st' := []) rfl ?_
      refine rw_goto (tgt := 98) d_VG_stir_72 (by decide) ?_
      exact next M2 s2 y1 y2 (hF.trans y3)
set_option maxRecDepth 100000 in
theorem c_stir {M : mm_M} {s : pSt} {n z : Int32} (hJ : Jc E J) (hs : J (s.1, s.2.1, pu s.2.2 3 0)) (h : VgP G M ca cm g E v s.1 s.2.1 s.2.2) : CT l G Y_VG_stir ds_VG_stir (rm 8) [.ref v, .int n, .int z] M sz (TkQ G M sz ca cm g E v J n 500) := by
  have g1 : VgP G (mup M v (.inr (10, [.ref (v + 2), .ref (v + 330), .ref (v + 332), .ref (v + 336), .int 0]))) ca cm g E v s.1 s.2.1 (pu s.2.2 3 0) := h.calm (c := 0) (by omega) rfl
  refine CT.of (by decide) (Nat.le_of_ble_eq_true rfl) ?_
  refine rw_iload_n d_VG_stir_0 rfl ?_
  refine rw_iconst (v := 1) d_VG_stir_1 (by decide) ?_
  refine rw_icmp_lt (tgt := 12) d_VG_stir_2 (by decide) (fun c1 => ?_) (fun c1 => ?_)
  · refine rw_iconst (v := (-1)) d_VG_stir_12 (by decide) ?_
    exact rw_iret d_VG_stir_13 rfl ⟨rfl, Or.inl ⟨Or.inl c1, rfl, rfl⟩⟩
  · refine rw_iload_n d_VG_stir_5 rfl ?_
    refine rw_sipush (v := 500) d_VG_stir_6 (by decide) ?_
    refine rw_icmp_le (tgt := 14) d_VG_stir_9 (by decide) (fun c2 => ?_) (fun c2 => ?_)
    · refine rw_aload_n d_VG_stir_14 rfl (by first | exact mm_ref_r _ | exact mm_ref_n | exact mm_ref_o _) ?_
      refine rw_iconst (v := 0) d_VG_stir_15 (by decide) ?_
      refine rw_put d_VG_stir_16 (fP_VG_68 _) h.1 (Nat.le_of_ble_eq_true rfl) (by first | rfl | assumption | decide) (by first | rfl | assumption | decide) ?_
      refine rw_iload_n d_VG_stir_19 rfl ?_
      refine rw_istore_n d_VG_stir_20 (by decide) rfl ?_
      refine rw_iconst (v := 0) d_VG_stir_21 (by decide) ?_
      refine rw_istore d_VG_stir_22 (by decide) rfl ?_
      have hn0 : ¬ n < 0 := fun z => c1 (Int32.lt_iff_toInt_lt.mpr (by have := Int32.lt_iff_toInt_lt.mp z; have h1 : (0 : Int32).toInt = 0 := (by decide); have h2 : (1 : Int32).toInt = 1 := (by decide); omega))
      obtain ⟨j, hj, rfl⟩ := nI_of2 (M := 500) (n := 500) (by decide) hn0 c2
      refine rw_lv (lv' := [(0, .ref v), (1, .int (nI j)), (3, .int z), (4, .int (nI 0))]) (by intro q hq; simp at hq; rcases hq with rfl | rfl | rfl | rfl <;> rfl) ?_
      exact stir_loop hJ (by omega) (fun z => z.elim c1 (fun w => Int32.not_lt.mpr c2 w)) j 0 _ (s.1, s.2.1, pu s.2.2 3 0) z (by omega) hs g1 (fr_at0 (E := E))
    · refine rw_iconst (v := (-1)) d_VG_stir_12 (by decide) ?_
      exact rw_iret d_VG_stir_13 rfl ⟨rfl, Or.inl ⟨Or.inr (Int32.not_le.mp c2), rfl, rfl⟩⟩
end STIR
