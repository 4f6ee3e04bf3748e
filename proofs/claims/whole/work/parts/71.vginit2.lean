/-! The constructor of VersionGroup, from its beginning. -/
section INIT5
variable {l : Launch} {G : mm_G} {M : mm_M} {sz : Nat} {E : pE} {ca : Nat → Nat} {cm : Nat → pCm} {v : Nat}
theorem gr_all : ∀ N, N < 7 → 3 ≤ N → ∀ C, C < 4 → 2 ≤ C → pGr N (2 ^ N - 1) = pGr N (pKeep N C (2 ^ N - 1)) := by decide +kernel
set_option maxRecDepth 100000 in
theorem vgInit_tail {M1 : mm_M} {n c : Int32} (hE : EOk E) (h0 : M1 v = some (.inr (10, [.null, .null, .null, .null, .int 0]))) (h1 : M1 (v + 1) = some (plO (eN E) (eC E))) (h00 : ∀ q, q < v → M1 q = M q) :
    RW l G Y_VG_init (rmA 4 426 6421) (mm_Z G (rmA 4 426 6421) (ViQ G M ca cm E v)) (15 * eN E + 1 + 3 + 1 + 1 + 1 + 327 + 1) (165 * eN E + eN E + 528 + 6 + 6 + 6 + 4874 + 3) 31 [(0, .ref v), (1, .int n), (2, .int c), (3, .ref (v + 1))] [] M1 (v + 2) := by
  obtain ⟨e1, e2, e3, e4, e5, e6, e7⟩ := id hE
  refine rw_aload_n d_VG_init_31 rfl (by first | exact mm_ref_r _ | exact mm_ref_n | exact mm_ref_o _) ?_
  refine rw_new (N := 3) (kc := 15 * eN E + 1 + 3 + 1 + 1 + 1 + 327) (ks := 165 * eN E + eN E + 528 + 6 + 6 + 6 + 4874) d_VG_init_32 nN_VG_21 ?_
  refine rw_dup d_VG_init_35 rfl ?_
  refine rw_callI (kc := 15 * eN E + 1 + 3 + 1 + 1 + 1) (ks := 165 * eN E + eN E + 528 + 6 + 6 + 6) (rest := [.ref (v + 2), .ref v]) d_VG_init_36 (c_postInit (a := v + 2) (mup_self _ _ _)) mW_Post_init mL_VG_23 mI_Post_init rfl rfl ⟨by decide, by decide⟩ rfl rfl (Nat.le_of_ble_eq_true rfl) (fun r M2 sz2 hq => ?_)
  obtain ⟨rfl, s2, q1, q2⟩ := hq
  have s2 : sz2 = v + 330 := s2
  subst s2
  have k2 : ∀ q, q < v + 2 → M2 q = M1 q := fun q hq => (q2 q hq).trans (mup_ne _ _ (by omega))
  refine rw_stk (st' := [.ref (v + 2), .ref v]) rfl ?_
  refine rw_put d_VG_init_39 fQ_VG_24 ((k2 v (by omega)).trans h0) (Nat.le_of_ble_eq_true rfl) (by first | rfl | assumption | decide) (by first | rfl | assumption | decide) ?_
  refine rw_aload_n d_VG_init_42 rfl (by first | exact mm_ref_r _ | exact mm_ref_n | exact mm_ref_o _) ?_
  refine rw_new (N := 6) (kc := 15 * eN E + 1 + 3 + 1 + 1) (ks := 165 * eN E + eN E + 528 + 6 + 6) d_VG_init_43 nN_VG_30 ?_
  refine rw_dup d_VG_init_46 rfl ?_
  refine rw_aload_n d_VG_init_47 rfl (by first | exact mm_ref_r _ | exact mm_ref_n | exact mm_ref_o _) ?_
  refine rw_aload_n d_VG_init_48 rfl (by first | exact mm_ref_r _ | exact mm_ref_n | exact mm_ref_o _) ?_
  refine rw_get d_VG_init_49 fF_VG_24 (mup_get (by omega) (mup_self _ _ _)) rfl ?_
  refine rw_callI (kc := 15 * eN E + 1 + 3 + 1) (ks := 165 * eN E + eN E + 528 + 6) (rest := [.ref (v + 330), .ref v]) d_VG_init_52 (c_keeperInit (E := E) (k := v + 330) (pl := v + 1) (p := v + 2) (mup_self _ _ _) (mup_get (by omega) (mup_get (by omega) ((k2 _ (by omega)).trans h1))) e2 (by omega) e5 (by rw [show eL E 1 = pGr (eN E) (pKeep (eN E) (eC E) (E.2.2 1)) from rfl, e5]; exact gr_all _ e2 e1 _ (by omega) e3)) mW_MapKeeper_init mL_VG_32 mI_MapKeeper_init rfl rfl ⟨by decide, by decide⟩ rfl rfl (Nat.le_of_ble_eq_true rfl) (fun r M3 sz3 hq => ?_)
  obtain ⟨rfl, s3, r1, r2⟩ := hq
  have s3 : sz3 = v + 332 := s3
  subst s3
  have k3 : ∀ q, q < v + 330 → q ≠ v → M3 q = M2 q := fun q hq hz => by rw [r2 q hq, mup_ne _ _ (by omega), mup_ne _ _ hz]
  have k3v := (r2 v (by omega)).trans (mup_get (show v ≠ v + 330 by omega) (mup_self M2 v _))
  refine rw_stk (st' := [.ref (v + 330), .ref v]) rfl ?_
  refine rw_put d_VG_init_55 fQ_VG_35 k3v (Nat.le_of_ble_eq_true rfl) (by first | rfl | assumption | decide) (by first | rfl | assumption | decide) ?_
  refine rw_aload_n d_VG_init_58 rfl (by first | exact mm_ref_r _ | exact mm_ref_n | exact mm_ref_o _) ?_
  refine rw_new (N := 6) (kc := 15 * eN E + 1 + 3) (ks := 165 * eN E + eN E + 528) d_VG_init_59 nN_VG_39 ?_
  refine rw_dup d_VG_init_62 rfl ?_
  refine rw_aload_n d_VG_init_63 rfl (by first | exact mm_ref_r _ | exact mm_ref_n | exact mm_ref_o _) ?_
  refine rw_get d_VG_init_64 fF_VG_24 (mup_get (by omega) (mup_self _ _ _)) rfl ?_
  refine rw_callI (kc := 15 * eN E + 1) (ks := 165 * eN E + eN E) (rest := [.ref (v + 332), .ref v]) d_VG_init_67 (c_deskInit (a := v + 332) (p := v + 2) (mup_self _ _ _)) mW_Desk_init mL_VG_41 mI_Desk_init rfl rfl ⟨by decide, by decide⟩ rfl rfl (Nat.le_of_ble_eq_true rfl) (fun r M4 sz4 hq => ?_)
  obtain ⟨rfl, s4, t1, t2⟩ := hq
  have s4 : sz4 = v + 336 := s4
  subst s4
  have k4 : ∀ q, q < v + 332 → q ≠ v → M4 q = M3 q := fun q hq hz => by rw [t2 q hq, mup_ne _ _ (by omega), mup_ne _ _ hz]
  have k4v := (t2 v (by omega)).trans (mup_get (show v ≠ v + 332 by omega) (mup_self M3 v _))
  refine rw_stk (st' := [.ref (v + 332), .ref v]) rfl ?_
  refine rw_put d_VG_init_70 fQ_VG_44 k4v (Nat.le_of_ble_eq_true rfl) (by first | rfl | assumption | decide) (by first | rfl | assumption | decide) ?_
  have p4 : M4 (v + 1) = some (plO (eN E) (eC E)) := by rw [k4 _ (by omega) (by omega), k3 _ (by omega) (by omega), k2 _ (by omega)]; exact h1
  refine rw_aload_n d_VG_init_73 rfl (by first | exact mm_ref_r _ | exact mm_ref_n | exact mm_ref_o _) ?_
  refine rw_aload_n d_VG_init_74 rfl (by first | exact mm_ref_r _ | exact mm_ref_n | exact mm_ref_o _) ?_
  refine rw_get d_VG_init_75 fF_VG_48 (mup_get (by omega) p4) rfl ?_
  refine rw_stk (st' := [.int (nI (eN E)), .ref v]) rfl ?_
  refine rw_newq (t := 5) (N := eN E) d_VG_init_78 (by decide) rfl (fun s hK => hK.2.2.2.2.2.2.1.2.2) cL_VG_52 (nI_pos (by omega)) (nI_c (by omega)) (by omega) ?_
  refine rw_put d_VG_init_81 fQ_VG_54 (mup_get (by omega) (mup_self _ _ _)) (Nat.le_of_ble_eq_true rfl) (by first | rfl | assumption | decide) (by first | rfl | assumption | decide) ?_
  refine rw_iconst (v := 0) d_VG_init_84 (by decide) ?_
  refine rw_istore d_VG_init_85 (by decide) rfl ?_
  refine rw_lv (lv' := [(0, .ref v), (1, .int n), (2, .int c), (3, .ref (v + 1)), (4, .int (nI 0))]) (by intro q hq; simp at hq; rcases hq with rfl | rfl | rfl | rfl | rfl <;> rfl) ?_
  refine vgInit_loop hE ⟨?_, ?_, ?_, ?_, ?_⟩ (fun q hq => ?_) (eN E) 0 _ (fun _ => none) (by omega) ?_ (fun j hj => by omega) (fun q hq => rfl) (fun j hj => by omega)
  · rw [mup_self]
    rfl
  · rw [mup_ne _ _ (by omega), mup_ne _ _ (by omega), mup_ne _ _ (by omega)]
    exact p4
  · exact q1.kept (fun q y1 y2 => by rw [mup_ne _ _ (by omega), mup_ne _ _ (by omega), mup_ne _ _ (by omega), k4 q (by omega) (by omega), k3 q (by omega) (by omega)])
  · exact r1.kept (fun q y1 y2 => by rw [mup_ne _ _ (by omega), mup_ne _ _ (by omega), mup_ne _ _ (by omega), k4 q (by omega) (by omega)])
  · refine ⟨?_, ?_, ?_, ?_⟩
    · rw [mup_ne _ _ (by omega), mup_ne _ _ (by omega), mup_ne _ _ (by omega)]
      exact t1.1
    · rw [mup_ne _ _ (by omega), mup_ne _ _ (by omega), mup_ne _ _ (by omega)]
      exact t1.2.1
    · rw [mup_ne _ _ (by omega), mup_ne _ _ (by omega), mup_ne _ _ (by omega)]
      exact t1.2.2.1
    · rw [mup_ne _ _ (by omega), mup_ne _ _ (by omega), mup_ne _ _ (by omega)]
      exact t1.2.2.2
  · rw [mup_ne _ _ (by omega), mup_ne _ _ (by omega), mup_ne _ _ (by omega), k4 q (by omega) (by omega), k3 q (by omega) (by omega), k2 q (by omega)]
    exact h00 q hq
  · simp [mup]
set_option maxRecDepth 100000 in
theorem c_vgInit {n c : Int32} (hE : EOk E) (hn : eN E = clp 3 6 n) (hc : eC E = clp 2 3 c) (hM : M v = some (.inr (10, [.null, .null, .null, .null, .int 0]))) : CT l G Y_VG_init ds_VG_init (rmA 4 426 6421) [.ref v, .int n, .int c] M (v + 1) (ViQ G M ca cm E v) := by
  obtain ⟨e1, e2, e3, e4, e5, e6, e7⟩ := id hE
  refine CT.of (by decide) (Nat.le_of_ble_eq_true rfl) ?_
  refine rw_fewer (kc' := 15 * eN E + 1 + 3 + 1 + 1 + 1 + 327 + 1 + 1) (ks' := 165 * eN E + eN E + 528 + 6 + 6 + 6 + 4874 + 3 + 2) (by show 15 * eN E + 1 + 3 + 1 + 1 + 1 + 327 + 1 + 1 ≤ 426; omega) (by show 165 * eN E + eN E + 528 + 6 + 6 + 6 + 4874 + 3 + 2 ≤ 6421; omega) ?_
  refine rw_aload_n d_VG_init_0 rfl (by first | exact mm_ref_r _ | exact mm_ref_n | exact mm_ref_o _) ?_
  refine rw_objInit d_VG_init_1 mL_VG_1 mI_Object_init cO_init (by decide) (by decide) ?_
  refine rw_new (N := 2) (kc := 15 * eN E + 1 + 3 + 1 + 1 + 1 + 327 + 1) (ks := 165 * eN E + eN E + 528 + 6 + 6 + 6 + 4874 + 3) d_VG_init_4 nN_VG_7 ?_
  refine rw_dup d_VG_init_7 rfl ?_
  refine rw_iconst (v := 3) d_VG_init_8 (by decide) ?_
  refine rw_bipush (v := 6) d_VG_init_9 (by decide) ?_
  refine rw_iload_n d_VG_init_11 rfl ?_
  refine rw_callS (kc := 15 * eN E + 1 + 3 + 1 + 1 + 1 + 327 + 1) (ks := 165 * eN E + eN E + 528 + 6 + 6 + 6 + 4874 + 3) (rest := [.int 3, .ref (v + 1), .ref (v + 1)]) d_VG_init_12 (c_min (x := 6) (y := n)) mW_Math_min mL_VG_9 mS_Math_min ⟨by decide, by decide⟩ rfl rfl (Nat.le_of_ble_eq_true rfl) (fun r M1 sz1 hq => ?_)
  obtain ⟨rfl, rfl, rfl⟩ := hq
  refine rw_stk (st' := [.int (if (6 : Int32) ≤ n then 6 else n), .int 3, .ref (v + 1), .ref (v + 1)]) rfl ?_
  refine rw_callS (kc := 15 * eN E + 1 + 3 + 1 + 1 + 1 + 327 + 1) (ks := 165 * eN E + eN E + 528 + 6 + 6 + 6 + 4874 + 3) (rest := [.ref (v + 1), .ref (v + 1)]) d_VG_init_15 (c_max (x := 3) (y := if (6 : Int32) ≤ n then 6 else n)) mW_Math_max mL_VG_15 mS_Math_max ⟨by decide, by decide⟩ rfl rfl (Nat.le_of_ble_eq_true rfl) (fun r M1 sz1 hq => ?_)
  obtain ⟨rfl, rfl, rfl⟩ := hq
  refine rw_stk (st' := [.int (nI (eN E)), .ref (v + 1), .ref (v + 1)]) (by rw [hn, ← clp_eq (by omega) (by omega) n]; rfl) ?_
  refine rw_iconst (v := 2) d_VG_init_18 (by decide) ?_
  refine rw_iconst (v := 3) d_VG_init_19 (by decide) ?_
  refine rw_iload_n d_VG_init_20 rfl ?_
  refine rw_callS (kc := 15 * eN E + 1 + 3 + 1 + 1 + 1 + 327 + 1) (ks := 165 * eN E + eN E + 528 + 6 + 6 + 6 + 4874 + 3) (rest := [.int 2, .int (nI (eN E)), .ref (v + 1), .ref (v + 1)]) d_VG_init_21 (c_min (x := 3) (y := c)) mW_Math_min mL_VG_9 mS_Math_min ⟨by decide, by decide⟩ rfl rfl (Nat.le_of_ble_eq_true rfl) (fun r M1 sz1 hq => ?_)
  obtain ⟨rfl, rfl, rfl⟩ := hq
  refine rw_stk (st' := [.int (if (3 : Int32) ≤ c then 3 else c), .int 2, .int (nI (eN E)), .ref (v + 1), .ref (v + 1)]) rfl ?_
  refine rw_callS (kc := 15 * eN E + 1 + 3 + 1 + 1 + 1 + 327 + 1) (ks := 165 * eN E + eN E + 528 + 6 + 6 + 6 + 4874 + 3) (rest := [.int (nI (eN E)), .ref (v + 1), .ref (v + 1)]) d_VG_init_24 (c_max (x := 2) (y := if (3 : Int32) ≤ c then 3 else c)) mW_Math_max mL_VG_15 mS_Math_max ⟨by decide, by decide⟩ rfl rfl (Nat.le_of_ble_eq_true rfl) (fun r M1 sz1 hq => ?_)
  obtain ⟨rfl, rfl, rfl⟩ := hq
  refine rw_stk (st' := [.int (nI (eC E)), .int (nI (eN E)), .ref (v + 1), .ref (v + 1)]) (by rw [hc, ← clp_eq (by omega) (by omega) c]; rfl) ?_
  refine rw_callI (kc := 15 * eN E + 1 + 3 + 1 + 1 + 1 + 327 + 1) (ks := 165 * eN E + eN E + 528 + 6 + 6 + 6 + 4874 + 3) (rest := [.ref (v + 1)]) d_VG_init_27 (c_planInit (a := v + 1) (N := eN E) (c := eC E) (mup_self _ _ _)) mW_Plan_init mL_VG_18 mI_Plan_init rfl rfl ⟨by decide, by decide⟩ rfl rfl (Nat.le_of_ble_eq_true rfl) (fun r M2 sz2 hq => ?_)
  obtain ⟨rfl, rfl, rfl⟩ := hq
  refine rw_stk (st' := [.ref (v + 1)]) rfl ?_
  refine rw_astore_n d_VG_init_30 (by decide) (by first | exact mm_ref_r _ | exact mm_ref_n | exact mm_ref_o _) rfl ?_
  refine rw_lv (lv' := [(0, .ref v), (1, .int n), (2, .int c), (3, .ref (v + 1))]) (by intro q hq; simp at hq; rcases hq with rfl | rfl | rfl | rfl <;> rfl) ?_
  refine vgInit_tail hE ?_ (mup_self _ _ _) (fun q hq => ?_)
  · rw [mup_ne _ _ (by omega), mup_ne _ _ (by omega), mup_ne _ _ (by omega)]
    exact hM
  · rw [mup_ne _ _ (by omega), mup_ne _ _ (by omega), mup_ne _ _ (by omega)]
end INIT5
