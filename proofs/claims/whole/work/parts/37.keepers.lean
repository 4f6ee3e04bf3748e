/-! Plan.keepers. -/
theorem kc_count : ∀ N, N < 7 → ∀ s, s < 64 → pCount 6 (s &&& (2 ^ N - 1)) = pCount N s := by decide +kernel
theorem and_lt64 : ∀ s, s < 64 → ∀ t, t < 64 → s &&& t < 64 ∧ nI s &&& nI t = nI (s &&& t) := by decide +kernel
theorem kc_and : ∀ s, s < 64 → ∀ c, c < 64 → nI s &&& (nI c ^^^ (-1)) = nI (s &&& (63 - c)) := by decide +kernel
theorem kc_or : ∀ c, c < 64 → ∀ g, g < 6 → nI c ||| ((1 : Int32) <<< (nI g &&& 31)) = nI (c ||| 2 ^ g) ∧ c ||| 2 ^ g < 64 := by decide +kernel
theorem kc_step : ∀ N, N < 7 → ∀ s, s < 64 → ∀ i, i < 3 → i < pCount N s → pCh N s i < 64 ∧ pGr N (s &&& (63 - pCh N s i)) < 6 := by decide +kernel
theorem pw_lt : ∀ N, N < 7 → 2 ^ N - 1 < 64 := by decide +kernel
section KEEPERS
variable {l : Launch} {G : mm_G} {M : mm_M} {sz : Nat}
def KeQ (M : mm_M) (sz N c set : Nat) : Option Value → mm_M → Nat → Prop := fun r M' sz' => r = some (.int (nI (pKeep N c set))) ∧ M' = M ∧ sz' = sz
theorem keepers_loop {p N c set : Nat} (hM : M p = some (plO N c)) (hN : N < 7) (hc : c ≤ 3) (hs : set < 64) (hk : ¬ pCount N set < c) : ∀ (m i : Nat), m + i = c → RW l G Y_Plan_keepers (rm 2) (mm_Z G (rm 2) (KeQ M sz N c set)) 0 0 22 [(0, .ref p), (1, .int (nI set)), (2, .int (nI (pCh N set i))), (3, .int (nI i))] [] M sz := by
  intro m
  induction m with
  | zero =>
    intro i hi
    have : i = c := by omega
    subst this
    refine rw_iload_n d_Plan_keepers_22 rfl ?_
    refine rw_aload_n d_Plan_keepers_23 rfl (by first | exact mm_ref_r _ | exact mm_ref_n | exact mm_ref_o _) ?_
    refine rw_get d_Plan_keepers_24 fF_Plan_15 hM rfl ?_
    refine rw_icmp_ge_t (tgt := 50) d_Plan_keepers_27 (by decide) (nI_le (by omega) (by omega)) ?_
    refine rw_iload_n d_Plan_keepers_50 rfl ?_
    exact rw_iret d_Plan_keepers_51 rfl ⟨by rw [pKeep, if_neg hk], rfl, rfl⟩
  | succ m ih =>
    intro i hi
    obtain ⟨k1, k2⟩ := kc_step N hN set hs i (by omega) (by omega)
    have k3 := kc_or _ k1 _ k2
    have k4 := (and_lt64 set hs (63 - pCh N set i) (by omega)).1
    refine rw_iload_n d_Plan_keepers_22 rfl ?_
    refine rw_aload_n d_Plan_keepers_23 rfl (by first | exact mm_ref_r _ | exact mm_ref_n | exact mm_ref_o _) ?_
    refine rw_get d_Plan_keepers_24 fF_Plan_15 hM rfl ?_
    refine rw_icmp_ge_f (tgt := 50) d_Plan_keepers_27 (by decide) (nI_ge (by omega) (by omega)) ?_
    refine rw_iload_n d_Plan_keepers_30 rfl ?_
    refine rw_iconst (v := 1) d_Plan_keepers_31 (by decide) ?_
    refine rw_aload_n d_Plan_keepers_32 rfl (by first | exact mm_ref_r _ | exact mm_ref_n | exact mm_ref_o _) ?_
    refine rw_iload_n d_Plan_keepers_33 rfl ?_
    refine rw_iload_n d_Plan_keepers_34 rfl ?_
    refine rw_iconst (v := (-1)) d_Plan_keepers_35 (by decide) ?_
    refine rw_ixor d_Plan_keepers_36 ?_
    refine rw_iand d_Plan_keepers_37 ?_
    rw [kc_and set hs _ k1]
    refine rw_callV (kc := 0) (ks := 0) (rest := [.int 1, .int (nI (pCh N set i))]) d_Plan_keepers_38 (c_greatest hM hN k4) mW_Plan_greatest mL_Plan_28 mI_Plan_greatest mE_Plan_greatest ⟨by decide, by decide⟩ hM rfl rfl rfl rfl (Nat.le_of_ble_eq_true rfl) (fun r M1 sz1 hq => ?_)
    obtain ⟨rfl, rfl, rfl⟩ := hq
    rw [gI, if_neg (by omega)]
    refine rw_stk (st' := [.int (nI (pGr N (set &&& (63 - pCh N set i)))), .int 1, .int (nI (pCh N set i))]) rfl ?_
    refine rw_ishl d_Plan_keepers_41 ?_
    refine rw_ior d_Plan_keepers_42 ?_
    rw [k3.1]
    refine rw_istore_n d_Plan_keepers_43 (by decide) rfl ?_
    refine rw_iinc d_Plan_keepers_44 (by decide) rfl rfl rfl ?_
    refine rw_lv (lv' := [(0, .ref p), (1, .int (nI set)), (2, .int (nI (pCh N set (i + 1)))), (3, .int (nI (i + 1)))]) (by rw [← nI_1]; intro q hq; simp at hq; rcases hq with rfl | rfl | rfl | rfl <;> rfl) ?_
    refine rw_goto (tgt := 22) d_Plan_keepers_47 (by decide) ?_
    exact ih (i + 1) (by omega)
theorem c_keepers {p N c set : Nat} (hM : M p = some (plO N c)) (hN : N < 7) (hc : c ≤ 3) (hs : set < 64) : CT l G Y_Plan_keepers ds_Plan_keepers (rm 2) [.ref p, .int (nI set)] M sz (KeQ M sz N c set) := by
  refine CT.of (by decide) (Nat.le_of_ble_eq_true rfl) ?_
  refine rw_iload_n d_Plan_keepers_0 rfl ?_
  refine rw_aload_n d_Plan_keepers_1 rfl (by first | exact mm_ref_r _ | exact mm_ref_n | exact mm_ref_o _) ?_
  refine rw_callV (kc := 0) (ks := 0) (rest := [.int (nI set)]) d_Plan_keepers_2 (c_all hM hN) mW_Plan_all mL_Plan_18 mI_Plan_all mE_Plan_all ⟨by decide, by decide⟩ hM rfl rfl rfl rfl (Nat.le_of_ble_eq_true rfl) (fun r M1 sz1 hq => ?_)
  obtain ⟨rfl, rfl, rfl⟩ := hq
  have k1 := and_lt64 set hs (2 ^ N - 1) (pw_lt N hN)
  refine rw_stk (st' := [.int (nI (2 ^ N - 1)), .int (nI set)]) rfl ?_
  refine rw_iand d_Plan_keepers_5 ?_
  rw [k1.2]
  refine rw_callS (kc := 0) (ks := 0) (rest := []) d_Plan_keepers_6 (c_bitCount k1.1) mW_Integer_bitCount mL_Plan_22 mS_Integer_bitCount ⟨by decide, by decide⟩ rfl rfl (Nat.le_of_ble_eq_true rfl) (fun r M1 sz1 hq => ?_)
  obtain ⟨rfl, rfl, rfl⟩ := hq
  rw [kc_count N hN set hs]
  refine rw_stk (st' := [.int (nI (pCount N set))]) rfl ?_
  refine rw_aload_n d_Plan_keepers_9 rfl (by first | exact mm_ref_r _ | exact mm_ref_n | exact mm_ref_o _) ?_
  refine rw_get d_Plan_keepers_10 fF_Plan_15 hM rfl ?_
  have hcl : pCount N set < 100 := by
    have : ∀ N, N < 7 → ∀ s, s < 64 → pCount N s < 100 := by decide +kernel
    exact this N hN set hs
  by_cases q : pCount N set < c
  · refine rw_icmp_ge_f (tgt := 18) d_Plan_keepers_13 (by decide) (nI_ge q (by omega)) ?_
    refine rw_iconst (v := 0) d_Plan_keepers_16 (by decide) ?_
    exact rw_iret d_Plan_keepers_17 rfl ⟨by rw [pKeep, if_pos q]; rfl, rfl, rfl⟩
  · refine rw_icmp_ge_t (tgt := 18) d_Plan_keepers_13 (by decide) (nI_le (by omega) (by omega)) ?_
    refine rw_iconst (v := 0) d_Plan_keepers_18 (by decide) ?_
    refine rw_istore_n d_Plan_keepers_19 (by decide) rfl ?_
    refine rw_iconst (v := 0) d_Plan_keepers_20 (by decide) ?_
    refine rw_istore_n d_Plan_keepers_21 (by decide) rfl ?_
    refine rw_lv (lv' := [(0, .ref p), (1, .int (nI set)), (2, .int (nI (pCh N set 0))), (3, .int (nI 0))]) (by intro q hq; simp at hq; rcases hq with rfl | rfl | rfl | rfl <;> rfl) ?_
    exact keepers_loop hM hN hc hs q c 0 rfl
theorem c_planInit {a N c : Nat} (hM : M a = some (.inr (2, [.int 0, .int 0]))) : CT l G Y_Plan_init ds_Plan_init (rm 1) [.ref a, .int (nI N), .int (nI c)] M sz (fun r M' sz' => r = none ∧ M' = mup (mup M a (.inr (2, [.int (nI N), .int 0]))) a (plO N c) ∧ sz' = sz) := by
  refine CT.of (by decide) (Nat.le_of_ble_eq_true rfl) ?_
  refine rw_aload_n d_Plan_init_0 rfl (by first | exact mm_ref_r _ | exact mm_ref_n | exact mm_ref_o _) ?_
  refine rw_objInit d_Plan_init_1 mL_Plan_3 mI_Object_init cO_init (by decide) (by decide) ?_
  refine rw_aload_n d_Plan_init_4 rfl (by first | exact mm_ref_r _ | exact mm_ref_n | exact mm_ref_o _) ?_
  refine rw_iload_n d_Plan_init_5 rfl ?_
  refine rw_put d_Plan_init_6 fQ_Plan_9 hM (Nat.le_of_ble_eq_true rfl) (by first | rfl | assumption | decide) (by first | rfl | decide) ?_
  refine rw_aload_n d_Plan_init_9 rfl (by first | exact mm_ref_r _ | exact mm_ref_n | exact mm_ref_o _) ?_
  refine rw_iload_n d_Plan_init_10 rfl ?_
  refine rw_put d_Plan_init_11 fQ_Plan_15 (mup_self _ _ _) (Nat.le_of_ble_eq_true rfl) (by first | rfl | assumption | decide) (by first | rfl | decide) ?_
  exact rw_vret d_Plan_init_14 rfl ⟨rfl, rfl, rfl⟩
end KEEPERS
