/-! Constructors of MapKeeper and Node. -/
section INIT3
variable {l : Launch} {G : mm_G} {M : mm_M} {sz : Nat} {E : pE} {ca : Nat → Nat} {cm : Nat → pCm}
theorem all_lt {N : Nat} (h : N < 7) : 2 ^ N - 1 < 64 := by
  have : 2 ^ N ≤ 2 ^ 6 := Nat.pow_le_pow_right (by omega) (by omega)
  omega
abbrev kpO (E : pE) (k pl p : Nat) : va_E := .inr (5, [.ref pl, .ref p, .ref (k + 1), .int (nI 1), .int (nI (E.2.2 1)), .int (gI (eL E 1))])
def KiQ (M : mm_M) (E : pE) (k pl p : Nat) : Option Value → mm_M → Nat → Prop := fun r M' sz' => r = none ∧ sz' = k + 2 ∧ KpP M' E k pl p 1 (fun _ => 1) ∧ ∀ q, q < k → M' q = M q
theorem keeperInit_loop {k pl p : Nat} (hN : eN E < 7) (hlt : pl < k) (hpl : M pl = some (plO (eN E) (eC E))) : ∀ (m i : Nat) (M1 : mm_M) (f : Nat → Int32), m + i = eN E → M1 k = some (kpO E k pl p) → M1 (k + 1) = some (aI (eN E) f) → (∀ j, j < i → f j = nI 1) → (∀ q, q < k → M1 q = M q) →
    RW l G Y_MapKeeper_init (rmA 2 1 6) (mm_Z G (rmA 2 1 6) (KiQ M E k pl p)) 0 0 51 [(0, .ref k), (1, .ref pl), (2, .ref p), (3, .int (nI i))] [] M1 (k + 2) := by
  intro m
  induction m with
  | zero =>
    intro i M1 f hi h0 h1 h2 h3
    have : i = eN E := by omega
    subst this
    refine rw_iload_n d_MapKeeper_init_51 rfl ?_
    refine rw_aload_n d_MapKeeper_init_52 rfl (by first | exact mm_ref_r _ | exact mm_ref_n | exact mm_ref_o _) ?_
    refine rw_get d_MapKeeper_init_53 fF_MapKeeper_39 ((h3 pl hlt).trans hpl) rfl ?_
    refine rw_icmp_ge_t (tgt := 75) d_MapKeeper_init_56 (by decide) (nI_le (a := eN E) (b := eN E) (by omega) (by omega)) ?_
    exact rw_vret d_MapKeeper_init_75 rfl ⟨rfl, rfl, ⟨f, h0, h1, h2⟩, h3⟩
  | succ m ih =>
    intro i M1 f hi h0 h1 h2 h3
    refine rw_iload_n d_MapKeeper_init_51 rfl ?_
    refine rw_aload_n d_MapKeeper_init_52 rfl (by first | exact mm_ref_r _ | exact mm_ref_n | exact mm_ref_o _) ?_
    refine rw_get d_MapKeeper_init_53 fF_MapKeeper_39 ((h3 pl hlt).trans hpl) rfl ?_
    refine rw_icmp_ge_f (tgt := 75) d_MapKeeper_init_56 (by decide) (nI_ge (a := i) (b := eN E) (by omega) (by omega)) ?_
    refine rw_aload_n d_MapKeeper_init_59 rfl (by first | exact mm_ref_r _ | exact mm_ref_n | exact mm_ref_o _) ?_
    refine rw_get d_MapKeeper_init_60 fF_MapKeeper_42 h0 rfl ?_
    refine rw_iload_n d_MapKeeper_init_63 rfl ?_
    refine rw_aload_n d_MapKeeper_init_64 rfl (by first | exact mm_ref_r _ | exact mm_ref_n | exact mm_ref_o _) ?_
    refine rw_get d_MapKeeper_init_65 fF_MapKeeper_9 h0 rfl ?_
    refine rw_iast d_MapKeeper_init_68 h1 (vp_in_nI (show i < eN E by omega) (by omega)) ?_
    rw [nI_c (by omega)]
    refine rw_iinc d_MapKeeper_init_69 (by decide) rfl rfl rfl ?_
    refine rw_lv (lv' := [(0, .ref k), (1, .ref pl), (2, .ref p), (3, .int (nI (i + 1)))]) (by rw [← nI_1]; intro q hq; simp at hq; rcases hq with rfl | rfl | rfl | rfl <;> rfl) ?_
    refine rw_goto (tgt := 51) d_MapKeeper_init_72 (by decide) ?_
    refine ih (i + 1) _ (upd f i (nI 1)) (by omega) (mup_get (by omega) h0) (mup_self _ _ _) (fun j hj => ?_) (fun q hq => by rw [mup_ne _ _ (by omega)]; exact h3 q hq)
    by_cases z : j = i
    · subst z
      simp [upd]
    · simp only [upd, if_neg z]
      exact h2 j (by omega)
theorem c_keeperInit {k pl p : Nat} (hM : M k = some (.inr (5, [.null, .null, .null, .int 0, .int 0, .int 0]))) (hpl : M pl = some (plO (eN E) (eC E))) (hN : eN E < 7) (hlt : pl < k) (h1 : E.2.2 1 = 2 ^ eN E - 1) (hL : pGr (eN E) (2 ^ eN E - 1) = eL E 1) :
    CT l G Y_MapKeeper_init ds_MapKeeper_init (rmA 2 1 6) [.ref k, .ref pl, .ref p] M (k + 1) (KiQ M E k pl p) := by
  refine CT.of (by decide) (Nat.le_of_ble_eq_true rfl) ?_
  refine rw_fewer (kc' := 0 + 1) (ks' := 0 + eN E) (Nat.le_of_ble_eq_true rfl) (by show 0 + eN E ≤ 6; omega) ?_
  refine rw_aload_n d_MapKeeper_init_0 rfl (by first | exact mm_ref_r _ | exact mm_ref_n | exact mm_ref_o _) ?_
  refine rw_objInit d_MapKeeper_init_1 mL_MapKeeper_3 mI_Object_init cO_init (by decide) (by decide) ?_
  refine rw_aload_n d_MapKeeper_init_4 rfl (by first | exact mm_ref_r _ | exact mm_ref_n | exact mm_ref_o _) ?_
  refine rw_iconst (v := 1) d_MapKeeper_init_5 (by decide) ?_
  refine rw_put d_MapKeeper_init_6 (fP_MapKeeper_9 _) hM (Nat.le_of_ble_eq_true rfl) (by first | rfl | assumption | decide) (by first | rfl | assumption | decide) ?_
  refine rw_aload_n d_MapKeeper_init_9 rfl (by first | exact mm_ref_r _ | exact mm_ref_n | exact mm_ref_o _) ?_
  refine rw_aload_n d_MapKeeper_init_10 rfl (by first | exact mm_ref_r _ | exact mm_ref_n | exact mm_ref_o _) ?_
  refine rw_put d_MapKeeper_init_11 fQ_MapKeeper_15 (mup_self _ _ _) (Nat.le_of_ble_eq_true rfl) (by first | rfl | assumption | decide) (by first | rfl | assumption | decide) ?_
  refine rw_aload_n d_MapKeeper_init_14 rfl (by first | exact mm_ref_r _ | exact mm_ref_n | exact mm_ref_o _) ?_
  refine rw_aload_n d_MapKeeper_init_15 rfl (by first | exact mm_ref_r _ | exact mm_ref_n | exact mm_ref_o _) ?_
  refine rw_put d_MapKeeper_init_16 fQ_MapKeeper_19 (mup_self _ _ _) (Nat.le_of_ble_eq_true rfl) (by first | rfl | assumption | decide) (by first | rfl | assumption | decide) ?_
  refine rw_aload_n d_MapKeeper_init_19 rfl (by first | exact mm_ref_r _ | exact mm_ref_n | exact mm_ref_o _) ?_
  refine rw_aload_n d_MapKeeper_init_20 rfl (by first | exact mm_ref_r _ | exact mm_ref_n | exact mm_ref_o _) ?_
  refine rw_callV (kc := 0 + 1) (ks := 0 + eN E) (rest := [.ref k]) d_MapKeeper_init_21 (c_all (mup_get (by omega) (mup_get (by omega) (mup_get (by omega) hpl))) hN) mW_Plan_all mL_MapKeeper_23 mI_Plan_all mE_Plan_all ⟨by decide, by decide⟩ (mup_get (by omega) (mup_get (by omega) (mup_get (by omega) hpl))) rfl rfl rfl rfl (Nat.le_of_ble_eq_true rfl) (fun r M1 sz1 hq => ?_)
  obtain ⟨rfl, rfl, rfl⟩ := hq
  refine rw_stk (st' := [.int (nI (2 ^ eN E - 1)), .ref k]) rfl ?_
  refine rw_put d_MapKeeper_init_24 (fP_MapKeeper_29 _) (mup_self _ _ _) (Nat.le_of_ble_eq_true rfl) (by first | rfl | assumption | decide) (by first | rfl | assumption | decide) ?_
  refine rw_aload_n d_MapKeeper_init_27 rfl (by first | exact mm_ref_r _ | exact mm_ref_n | exact mm_ref_o _) ?_
  refine rw_aload_n d_MapKeeper_init_28 rfl (by first | exact mm_ref_r _ | exact mm_ref_n | exact mm_ref_o _) ?_
  refine rw_aload_n d_MapKeeper_init_29 rfl (by first | exact mm_ref_r _ | exact mm_ref_n | exact mm_ref_o _) ?_
  refine rw_get d_MapKeeper_init_30 fF_MapKeeper_29 (mup_self _ _ _) rfl ?_
  refine rw_stk (st' := [.int (nI (2 ^ eN E - 1)), .ref pl, .ref k]) rfl ?_
  refine rw_callV (kc := 0 + 1) (ks := 0 + eN E) (rest := [.ref k]) d_MapKeeper_init_33 (c_greatest (mup_get (by omega) (mup_get (by omega) (mup_get (by omega) (mup_get (by omega) hpl)))) hN (all_lt hN)) mW_Plan_greatest mL_MapKeeper_32 mI_Plan_greatest mE_Plan_greatest ⟨by decide, by decide⟩ (mup_get (by omega) (mup_get (by omega) (mup_get (by omega) (mup_get (by omega) hpl)))) rfl rfl rfl rfl (Nat.le_of_ble_eq_true rfl) (fun r M1 sz1 hq => ?_)
  obtain ⟨rfl, rfl, rfl⟩ := hq
  refine rw_stk (st' := [.int (gI (pGr (eN E) (2 ^ eN E - 1))), .ref k]) rfl ?_
  refine rw_put d_MapKeeper_init_36 (fP_MapKeeper_36 _) (mup_self _ _ _) (Nat.le_of_ble_eq_true rfl) (by first | rfl | assumption | decide) (by first | rfl | assumption | decide) ?_
  refine rw_aload_n d_MapKeeper_init_39 rfl (by first | exact mm_ref_r _ | exact mm_ref_n | exact mm_ref_o _) ?_
  refine rw_aload_n d_MapKeeper_init_40 rfl (by first | exact mm_ref_r _ | exact mm_ref_n | exact mm_ref_o _) ?_
  refine rw_get d_MapKeeper_init_41 fF_MapKeeper_39 (mup_get (by omega) (mup_get (by omega) (mup_get (by omega) (mup_get (by omega) (mup_get (by omega) hpl))))) rfl ?_
  refine rw_stk (st' := [.int (nI (eN E)), .ref k]) rfl ?_
  refine rw_newa (t := 0) (N := eN E) (a0 := (eN E, .inl (fun _ => 0))) d_MapKeeper_init_44 rfl (by decide) aC_int (nI_pos (by omega)) (nI_c (by omega)) (by simp [mm_ty, componentBytes]; omega) (fun _ => rfl) ?_
  refine rw_put d_MapKeeper_init_46 fQ_MapKeeper_42 (mup_get (by omega) (mup_self _ _ _)) (Nat.le_of_ble_eq_true rfl) (by first | rfl | assumption | decide) (by first | rfl | assumption | decide) ?_
  refine rw_iconst (v := 0) d_MapKeeper_init_49 (by decide) ?_
  refine rw_istore_n d_MapKeeper_init_50 (by decide) rfl ?_
  refine rw_lv (lv' := [(0, .ref k), (1, .ref pl), (2, .ref p), (3, .int (nI 0))]) (by intro q hq; simp at hq; rcases hq with rfl | rfl | rfl | rfl <;> rfl) ?_
  refine keeperInit_loop hN hlt hpl (eN E) 0 _ (fun _ => 0) (by omega) ?_ (by simp [mup]) (fun j hj => by omega) (fun q hq => ?_)
  · rw [mup_self]
    simp only [kpO]
    rw [h1, ← hL]
    rfl
  · rw [mup_ne _ _ (by omega), mup_ne _ _ (by omega), mup_ne _ _ (by omega), mup_ne _ _ (by omega), mup_ne _ _ (by omega), mup_ne _ _ (by omega), mup_ne _ _ (by omega)]
/-- a fresh node -/
def pN0 : pN := fun j => if j = 0 ∨ j = 4 ∨ j = 7 then 1 else 0
theorem pBd0 : pBd pN0 := by
  refine ⟨fun j => ?_, fun j _ => ?_⟩
  · unfold pN0
    split <;> omega
  · unfold pN0
    split <;> omega
def NiQ (M : mm_M) (ca : Nat → Nat) (cm : Nat → pCm) (E : pE) (pl p a n : Nat) : Option Value → mm_M → Nat → Prop := fun r M' sz' => r = none ∧ sz' = a + 15 ∧ NdP M' ca cm 0 E pl p a n pN0 ∧ ∀ q, q < a → M' q = M q
set_option maxRecDepth 100000 in
theorem nodeInit_tail {a pl p n : Nat} {M3 : mm_M} (hpl : M pl = some (plO (eN E) (eC E))) (hN : eN E < 7) (hC3 : eC E ≤ 3) (hlt : pl < a) (h1 : E.2.2 1 = 2 ^ eN E - 1) (hm : eM E 1 < 64) (n0 : M3 a = some (ndO a n pl p pN0)) (n1 : MeN M3 (a + 1)) (n2 : MeN M3 (a + 6)) (n3 : RpR M3 (a + 11) (eN E) (fun _ => 0) (fun _ => 0) (fun _ => 0) 0 0) (n4 : ∀ q, q < a → M3 q = M q) :
    RW l G Y_Node_init (rmA 3 14 155) (mm_Z G (rmA 3 14 155) (NiQ M ca cm E pl p a n)) 0 0 61 [(0, .ref a), (1, .int (nI n)), (2, .ref pl), (3, .ref p)] [] M3 (a + 15) := by
  have p3 := (n4 pl hlt).trans hpl
  refine rw_aload_n d_Node_init_61 rfl (by first | exact mm_ref_r _ | exact mm_ref_n | exact mm_ref_o _) ?_
  refine rw_aload_n d_Node_init_62 rfl (by first | exact mm_ref_r _ | exact mm_ref_n | exact mm_ref_o _) ?_
  refine rw_callV (kc := 0) (ks := 0) (rest := [.ref pl]) d_Node_init_63 (c_all p3 hN) mW_Plan_all mL_Node_51 mI_Plan_all mE_Plan_all ⟨by decide, by decide⟩ p3 rfl rfl rfl rfl (Nat.le_of_ble_eq_true rfl) (fun r M1 sz1 hq => ?_)
  obtain ⟨rfl, rfl, rfl⟩ := hq
  refine rw_stk (st' := [.int (nI (2 ^ eN E - 1)), .ref pl]) rfl ?_
  refine rw_callV (kc := 0) (ks := 0) (rest := []) d_Node_init_66 (c_keepers p3 hN hC3 (all_lt hN)) mW_Plan_keepers mL_Node_55 mI_Plan_keepers mE_Plan_keepers ⟨by decide, by decide⟩ p3 rfl rfl rfl rfl (Nat.le_of_ble_eq_true rfl) (fun r M1 sz1 hq => ?_)
  obtain ⟨rfl, rfl, rfl⟩ := hq
  rw [← h1]
  refine rw_stk (st' := [.int (nI (eM E 1))]) rfl ?_
  refine rw_istore d_Node_init_69 (by decide) rfl ?_
  refine rw_lv (lv' := [(0, .ref a), (1, .int (nI n)), (2, .ref pl), (3, .ref p), (4, .int (nI (eM E 1)))]) (by intro q hq; simp at hq; rcases hq with rfl | rfl | rfl | rfl | rfl <;> rfl) ?_
  refine rw_aload_n d_Node_init_71 rfl (by first | exact mm_ref_r _ | exact mm_ref_n | exact mm_ref_o _) ?_
  refine rw_get d_Node_init_72 fF_Node_12 n0 rfl ?_
  refine rw_iconst (v := 1) d_Node_init_75 (by decide) ?_
  refine rw_iload d_Node_init_76 rfl ?_
  refine rw_aload_n d_Node_init_78 rfl (by first | exact mm_ref_r _ | exact mm_ref_n | exact mm_ref_o _) ?_
  refine rw_iload d_Node_init_79 rfl ?_
  refine rw_callV (kc := 0) (ks := 0) (rest := [.int (nI (eM E 1)), .int 1, .ref (a + 1)]) d_Node_init_81 (c_greatest p3 hN hm) mW_Plan_greatest mL_Node_59 mI_Plan_greatest mE_Plan_greatest ⟨by decide, by decide⟩ p3 rfl rfl rfl rfl (Nat.le_of_ble_eq_true rfl) (fun r M1 sz1 hq => ?_)
  obtain ⟨rfl, rfl, rfl⟩ := hq
  refine rw_stk (st' := [.int (gI (eL E 1)), .int (nI (eM E 1)), .int 1, .ref (a + 1)]) rfl ?_
  have n1a := n1.1
  refine rw_callV (kc := 0) (ks := 0) (rest := []) d_Node_init_84 (c_enter (e' := 1) (k' := nI (eM E 1)) (z' := gI (eL E 1)) n1a) mW_Memory_enter mL_Node_62 mI_Memory_enter mE_Memory_enter ⟨by decide, by decide⟩ n1a rfl rfl rfl rfl (Nat.le_of_ble_eq_true rfl) (fun r M4 sz4 hq => ?_)
  obtain ⟨rfl, rfl, q1, q2⟩ := hq
  refine rw_stk (st' := []) rfl ?_
  have k0 := (q2 a (by omega)).trans n0
  refine rw_aload_n d_Node_init_87 rfl (by first | exact mm_ref_r _ | exact mm_ref_n | exact mm_ref_o _) ?_
  refine rw_get d_Node_init_88 fF_Node_18 k0 rfl ?_
  refine rw_aload_n d_Node_init_91 rfl (by first | exact mm_ref_r _ | exact mm_ref_n | exact mm_ref_o _) ?_
  refine rw_get d_Node_init_92 fF_Node_12 k0 rfl ?_
  have n2a : MeN M4 (a + 6) := ⟨(q2 _ (by omega)).trans n2.1, n2.2.kept (fun q y1 y2 => q2 q (by omega))⟩
  have n1b : CpN M4 (a + 1 + 1) := n1.2.kept (fun q y1 y2 => q2 q (by omega))
  have n1c : MeP M4 ca cm 0 E (a + 1) 1 0 0 := ⟨q1, n1b.p ca cm 0⟩
  have n2b := n2a.1
  have hb := c_become (l := l) (G := G) (sz := a + 15) (E := E) (e := 0) (k := 0) (z := 0) (show CmA M4 ca cm 0 from fun i hi => by omega) n2b ((n2a.2.p ca cm 0).le (by omega)) n1c (by omega) (fun i hi => by omega)
  refine rw_callV (kc := 0) (ks := 0) (rest := []) d_Node_init_95 (hb) mW_Memory_become mL_Node_66 mI_Memory_become mE_Memory_become ⟨by decide, by decide⟩ n2b rfl rfl rfl rfl (Nat.le_of_ble_eq_true rfl) (fun r M5 sz5 hq => ?_)
  obtain ⟨rfl, rfl, r1, r2⟩ := hq
  refine rw_stk (st' := []) rfl ?_
  refine rw_vret d_Node_init_98 rfl ⟨rfl, rfl, ⟨?_, ?_, r1, ⟨fun _ => 0, fun _ => 0, fun _ => 0, ⟨?_, ?_, ?_, ?_⟩, fun m _ => ?_⟩, pBd0⟩, fun q hq => ?_⟩
  · rw [r2 _ (by omega)]
    exact k0
  · exact n1c.kept (fun q y1 y2 => r2 q (by omega))
  · rw [r2 _ (by omega), q2 _ (by omega)]
    exact n3.1
  · rw [r2 _ (by omega), q2 _ (by omega)]
    exact n3.2.1
  · rw [r2 _ (by omega), q2 _ (by omega)]
    exact n3.2.2.1
  · rw [r2 _ (by omega), q2 _ (by omega)]
    exact n3.2.2.2
  · simp only [pN0]
    rw [if_neg (by omega), if_neg (by omega), if_neg (by omega)]
    exact ⟨rfl, rfl, rfl⟩
  · rw [r2 _ (by omega), q2 _ (by omega)]
    exact n4 q hq
set_option maxRecDepth 100000 in
theorem c_nodeInit {a pl p n : Nat} (hM : M a = some (.inr (9, [.int 0, .null, .null, .null, .null, .null, .int 0, .int 0, .int 0, .int 0]))) (hpl : M pl = some (plO (eN E) (eC E))) (hN : eN E < 7) (hC3 : eC E ≤ 3) (hlt : pl < a) (h1 : E.2.2 1 = 2 ^ eN E - 1) (hm : eM E 1 < 64) :
    CT l G Y_Node_init ds_Node_init (rmA 3 14 155) [.ref a, .int (nI n), .ref pl, .ref p] M (a + 1) (NiQ M ca cm E pl p a n) := by
  refine CT.of (by decide) (Nat.le_of_ble_eq_true rfl) ?_
  refine rw_fewer (kc' := 0 + 3 + 1 + 4 + 1 + 4 + 1) (ks' := 0 + 3 * eN E + 5 + 62 + 4 + 62 + 4) (Nat.le_of_ble_eq_true rfl) (by show 0 + 3 * eN E + 5 + 62 + 4 + 62 + 4 ≤ 155; omega) ?_
  refine rw_aload_n d_Node_init_0 rfl (by first | exact mm_ref_r _ | exact mm_ref_n | exact mm_ref_o _) ?_
  refine rw_objInit d_Node_init_1 mL_Node_3 mI_Object_init cO_init (by decide) (by decide) ?_
  refine rw_aload_n d_Node_init_4 rfl (by first | exact mm_ref_r _ | exact mm_ref_n | exact mm_ref_o _) ?_
  refine rw_new (N := 4) (kc := 0 + 3 + 1 + 4 + 1 + 4) (ks := 0 + 3 * eN E + 5 + 62 + 4 + 62) d_Node_init_5 nN_Node_9 ?_
  refine rw_dup d_Node_init_8 rfl ?_
  refine rw_callIN (kc := 0 + 3 + 1 + 4 + 1) (ks := 0 + 3 * eN E + 5 + 62 + 4) (j := 2) (rest := [.ref (a + 1), .ref a]) d_Node_init_9 (c_memoryInit (mup_self _ _ _)) mW_Memory_init rfl mI_Memory_init rfl rfl ⟨by decide, by decide⟩ rfl rfl (Nat.le_of_ble_eq_true rfl) (fun r M1 sz1 hq => ?_)
  obtain ⟨rfl, rfl, q1, q2⟩ := hq
  refine rw_stk (st' := [.ref (a + 1), .ref a]) rfl ?_
  refine rw_put d_Node_init_12 fQ_Node_12 ((q2 a (by omega)).trans (mup_get (by omega) hM)) (Nat.le_of_ble_eq_true rfl) (by first | rfl | assumption | decide) (by first | rfl | assumption | decide) ?_
  refine rw_aload_n d_Node_init_15 rfl (by first | exact mm_ref_r _ | exact mm_ref_n | exact mm_ref_o _) ?_
  refine rw_new (N := 4) (kc := 0 + 3 + 1 + 4) (ks := 0 + 3 * eN E + 5 + 62) d_Node_init_16 nN_Node_9 ?_
  refine rw_dup d_Node_init_19 rfl ?_
  refine rw_callIN (kc := 0 + 3 + 1) (ks := 0 + 3 * eN E + 5) (j := 2) (rest := [.ref (a + 1 + 5), .ref a]) d_Node_init_20 (c_memoryInit (mup_self _ _ _)) mW_Memory_init rfl mI_Memory_init rfl rfl ⟨by decide, by decide⟩ rfl rfl (Nat.le_of_ble_eq_true rfl) (fun r M2 sz2 hq => ?_)
  obtain ⟨rfl, rfl, r1, r2⟩ := hq
  refine rw_stk (st' := [.ref (a + 6), .ref a]) rfl ?_
  refine rw_put d_Node_init_23 fQ_Node_18 ((r2 a (by omega)).trans (mup_get (by omega) (mup_self _ _ _))) (Nat.le_of_ble_eq_true rfl) (by first | rfl | assumption | decide) (by first | rfl | assumption | decide) ?_
  refine rw_aload_n d_Node_init_26 rfl (by first | exact mm_ref_r _ | exact mm_ref_n | exact mm_ref_o _) ?_
  refine rw_iconst (v := 1) d_Node_init_27 (by decide) ?_
  refine rw_put d_Node_init_28 (fP_Node_21 _) (mup_self _ _ _) (Nat.le_of_ble_eq_true rfl) (by first | rfl | assumption | decide) (by first | rfl | assumption | decide) ?_
  refine rw_aload_n d_Node_init_31 rfl (by first | exact mm_ref_r _ | exact mm_ref_n | exact mm_ref_o _) ?_
  refine rw_iload_n d_Node_init_32 rfl ?_
  refine rw_put d_Node_init_33 fQ_Node_25 (mup_self _ _ _) (Nat.le_of_ble_eq_true rfl) (by first | rfl | assumption | decide) (by first | rfl | assumption | decide) ?_
  refine rw_aload_n d_Node_init_36 rfl (by first | exact mm_ref_r _ | exact mm_ref_n | exact mm_ref_o _) ?_
  refine rw_aload_n d_Node_init_37 rfl (by first | exact mm_ref_r _ | exact mm_ref_n | exact mm_ref_o _) ?_
  refine rw_put d_Node_init_38 fQ_Node_29 (mup_self _ _ _) (Nat.le_of_ble_eq_true rfl) (by first | rfl | assumption | decide) (by first | rfl | assumption | decide) ?_
  refine rw_aload_n d_Node_init_41 rfl (by first | exact mm_ref_r _ | exact mm_ref_n | exact mm_ref_o _) ?_
  refine rw_aload_n d_Node_init_42 rfl (by first | exact mm_ref_r _ | exact mm_ref_n | exact mm_ref_o _) ?_
  refine rw_put d_Node_init_43 fQ_Node_33 (mup_self _ _ _) (Nat.le_of_ble_eq_true rfl) (by first | rfl | assumption | decide) (by first | rfl | assumption | decide) ?_
  refine rw_aload_n d_Node_init_46 rfl (by first | exact mm_ref_r _ | exact mm_ref_n | exact mm_ref_o _) ?_
  have m2 : ∀ q, q < a → M2 q = M q := fun q hq => by
    rw [r2 q (by omega), mup_ne _ _ (by omega), mup_ne _ _ (by omega), q2 q (by omega), mup_ne _ _ (by omega)]
  have p2 : M2 pl = some (plO (eN E) (eC E)) := (m2 pl hlt).trans hpl
  refine rw_new (N := 5) (kc := 0 + 3) (ks := 0 + 3 * eN E) d_Node_init_47 nN_Node_37 ?_
  refine rw_dup d_Node_init_50 rfl ?_
  refine rw_aload_n d_Node_init_51 rfl (by first | exact mm_ref_r _ | exact mm_ref_n | exact mm_ref_o _) ?_
  refine rw_get d_Node_init_52 fF_Node_39 (mup_get (by omega) (mup_get (by omega) (mup_get (by omega) (mup_get (by omega) (mup_get (by omega) (mup_get (by omega) p2)))))) rfl ?_
  refine rw_stk (st' := [.int (nI (eN E)), .ref (a + 11), .ref (a + 11), .ref a]) rfl ?_
  refine rw_callI (kc := 0) (ks := 0) (rest := [.ref (a + 11), .ref a]) d_Node_init_55 (c_reportsInit (a := a + 11) (mup_self _ _ _) hN) mW_Reports_init mL_Node_44 mI_Reports_init rfl rfl ⟨Nat.le_of_ble_eq_true rfl, Nat.le_of_ble_eq_true rfl⟩ rfl rfl (Nat.le_of_ble_eq_true rfl) (fun r M3 sz3 hq => ?_)
  obtain ⟨rfl, rfl, s1, s2⟩ := hq
  refine rw_stk (st' := [.ref (a + 11), .ref a]) rfl ?_
  refine rw_put d_Node_init_58 fQ_Node_47 ((s2 a (by omega)).trans (mup_get (by omega) (mup_self _ _ _))) (Nat.le_of_ble_eq_true rfl) (by first | rfl | assumption | decide) (by first | rfl | assumption | decide) ?_
  have w3 : ∀ q, q < a + 11 → q ≠ a → M3 q = M2 q := fun q hq hz => by
    rw [s2 q hq, mup_ne _ _ (by omega), mup_ne _ _ hz, mup_ne _ _ hz, mup_ne _ _ hz, mup_ne _ _ hz, mup_ne _ _ hz]
  have w2 : ∀ q, q < a + 6 → q ≠ a → M2 q = M1 q := fun q hq hz => by
    rw [r2 q (by omega), mup_ne _ _ (by omega), mup_ne _ _ hz]
  refine nodeInit_tail hpl hN hC3 hlt h1 hm ?_ ⟨?_, ?_⟩ ⟨?_, ?_⟩ ⟨?_, ?_, ?_, ?_⟩ (fun q hq => ?_)
  · rw [mup_self]
    rfl
  · rw [mup_ne _ _ (by omega), w3 _ (by omega) (by omega), w2 _ (by omega) (by omega)]
    exact q1.1
  · exact q1.2.kept (fun q y1 y2 => by rw [mup_ne _ _ (by omega), w3 _ (by omega) (by omega), w2 _ (by omega) (by omega)])
  · rw [mup_ne _ _ (by omega), w3 _ (by omega) (by omega)]
    exact r1.1
  · exact r1.2.kept (fun q y1 y2 => by rw [mup_ne _ _ (by omega), w3 _ (by omega) (by omega)])
  · rw [mup_ne _ _ (by omega)]
    exact s1.1
  · rw [mup_ne _ _ (by omega)]
    exact s1.2.1
  · rw [mup_ne _ _ (by omega)]
    exact s1.2.2.1
  · rw [mup_ne _ _ (by omega)]
    exact s1.2.2.2
  · rw [mup_ne _ _ (by omega), w3 _ (by omega) (by omega)]
    exact m2 q hq
end INIT3
