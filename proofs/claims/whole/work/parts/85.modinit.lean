/-! The reference: its constructor. -/
section MODINIT
variable {l : Launch} {G : mm_G} {M : mm_M} {sz : Nat} {E : pE} {cm : Nat → pCm} {mo : Nat}
def MiQ (M : mm_M) (E : pE) (cm : Nat → pCm) (mo : Nat) : Option Value → mm_M → Nat → Prop := fun r M' sz' => r = none ∧ sz' = mo + 7 ∧ MoP M' mo (mo + 6) 64 E cm 0 0 (2 ^ eN E - 1) 1 0 ∧ ∀ q, q < mo → M' q = M q
/-- the fresh arrays -/
def MfP (M : mm_M) (mo : Nat) : Prop := M (mo + 1) = some (aI 40 (fun _ => 0)) ∧ M (mo + 2) = some (aZ 40 (fun _ => 0)) ∧ M (mo + 3) = some (aI 8 (fun _ => 0)) ∧ M (mo + 4) = some (aI 8 (fun _ => 0)) ∧ M (mo + 5) = some (aI 8 (fun _ => 0)) ∧ M (mo + 6) = some (aJ 64 (fun _ => 0))
abbrev miO (mo : Nat) (a b : Int32) : va_E := .inr (11, [.int a, .int b, .ref (mo + 1), .ref (mo + 2), .ref (mo + 3), .ref (mo + 4), .ref (mo + 5), .int 0, .ref (mo + 6), .int 0, .int 0, .int 0, .int 1, .int 0])
theorem clp_c1 {k : Int32} {lo hi : Nat} (h2 : hi < 1000) (h : lo ≤ hi) (q : k < nI lo) : nI lo = nI (clp lo hi k) := by
  rw [Int32.lt_iff_toInt_lt, nI_toInt (by omega)] at q
  unfold clp
  rw [if_pos (by omega)]
theorem clp_c2 {k : Int32} {lo hi : Nat} (h2 : hi < 1000) (h : lo < hi) (q : ¬ k ≤ nI hi) : nI hi = nI (clp lo hi k) := by
  rw [Int32.le_iff_toInt_le, nI_toInt (by omega)] at q
  unfold clp
  rw [if_neg (by omega), if_pos (by omega)]
theorem clp_c3 {k : Int32} {lo hi : Nat} (h2 : hi < 1000) (h : lo < hi) (q : ¬ k < nI lo) (q2 : k ≤ nI hi) : k = nI (clp lo hi k) := by
  rw [Int32.le_iff_toInt_le, nI_toInt (by omega)] at q2
  rw [Int32.lt_iff_toInt_lt, nI_toInt (by omega)] at q
  have b := clp_lo (show lo ≤ hi by omega) k
  rw [← Int32.toInt_inj, nI_toInt (by omega)]
  unfold clp
  split
  · omega
  · split <;> omega
set_option maxRecDepth 100000 in
theorem minit_c {M1 : mm_M} {n c : Int32} (hE : EOk E) (h0 : M1 mo = some (miO mo (nI (eN E)) 0)) (hf : MfP M1 mo) (hq : ∀ q, q < mo → M1 q = M q) :
    RW l G Y_Mod_init (rmA 1 6 168) (mm_Z G (rmA 1 6 168) (MiQ M E cm mo)) 0 0 102 [(0, .ref mo), (1, .int n), (2, .int c)] [.int (nI (eC E)), .ref mo] M1 (mo + 7) := by
  obtain ⟨e1, e2, e3, e4, e5, e6, e7⟩ := id hE
  obtain ⟨f1, f2, f3, f4, f5, f6⟩ := hf
  refine rw_put d_Mod_init_102 fQ_Mod_37 h0 (Nat.le_of_ble_eq_true rfl) (by first | rfl | assumption | decide) (by first | rfl | assumption | decide) ?_
  refine rw_aload_n d_Mod_init_105 rfl (by first | exact mm_ref_r _ | exact mm_ref_n | exact mm_ref_o _) ?_
  refine rw_iconst (v := 1) d_Mod_init_106 (by decide) ?_
  refine rw_aload_n d_Mod_init_107 rfl (by first | exact mm_ref_r _ | exact mm_ref_n | exact mm_ref_o _) ?_
  refine rw_get d_Mod_init_108 fF_Mod_34 (mup_self _ _ _) rfl ?_
  refine rw_ishl d_Mod_init_111 ?_
  refine rw_iconst (v := 1) d_Mod_init_112 (by decide) ?_
  refine rw_isub d_Mod_init_113 ?_
  rw [all_val _ e2]
  refine rw_put d_Mod_init_114 (fP_Mod_40 _) (mup_self _ _ _) (Nat.le_of_ble_eq_true rfl) (by first | rfl | assumption | decide) (by first | rfl | assumption | decide) ?_
  refine rw_aload_n d_Mod_init_117 rfl (by first | exact mm_ref_r _ | exact mm_ref_n | exact mm_ref_o _) ?_
  refine rw_aload_n d_Mod_init_118 rfl (by first | exact mm_ref_r _ | exact mm_ref_n | exact mm_ref_o _) ?_
  refine rw_get d_Mod_init_119 fF_Mod_40 (mup_self _ _ _) rfl ?_
  refine rw_put d_Mod_init_122 (fP_Mod_43 _) (mup_self _ _ _) (Nat.le_of_ble_eq_true rfl) (by first | rfl | assumption | decide) (by first | rfl | assumption | decide) ?_
  refine rw_vret d_Mod_init_125 rfl ⟨rfl, rfl, ⟨(fun _ => 0), (fun _ => 0), (fun _ => 0), (fun _ => 0), (fun _ => 0), (fun _ => 0), ?_, ?_, ?_, ?_, ?_, ?_, ?_, ⟨by omega, by omega, by omega, by omega, by omega, by omega, all_lt64 _ e2, by omega, by omega⟩, fun k hk => ⟨rfl, rfl⟩, fun j hj => by omega, fun i hi => by omega⟩, fun q z => ?_⟩
  · rw [mup_self]
    simp only [moO]
    rw [e5]
    rfl
  · rw [mup_ne _ _ (by omega), mup_ne _ _ (by omega), mup_ne _ _ (by omega)]
    exact f1
  · rw [mup_ne _ _ (by omega), mup_ne _ _ (by omega), mup_ne _ _ (by omega)]
    exact f2
  · rw [mup_ne _ _ (by omega), mup_ne _ _ (by omega), mup_ne _ _ (by omega)]
    exact f3
  · rw [mup_ne _ _ (by omega), mup_ne _ _ (by omega), mup_ne _ _ (by omega)]
    exact f4
  · rw [mup_ne _ _ (by omega), mup_ne _ _ (by omega), mup_ne _ _ (by omega)]
    exact f5
  · rw [mup_ne _ _ (by omega), mup_ne _ _ (by omega), mup_ne _ _ (by omega)]
    exact f6
  · rw [mup_ne _ _ (by omega), mup_ne _ _ (by omega), mup_ne _ _ (by omega)]
    exact hq q z
set_option maxRecDepth 100000 in
theorem minit_n {M1 : mm_M} {n c : Int32} (hE : EOk E) (hc : eC E = clp 2 3 c) (h0 : M1 mo = some (miO mo 0 0)) (hf : MfP M1 mo) (hq : ∀ q, q < mo → M1 q = M q) :
    RW l G Y_Mod_init (rmA 1 6 168) (mm_Z G (rmA 1 6 168) (MiQ M E cm mo)) 0 0 79 [(0, .ref mo), (1, .int n), (2, .int c)] [.int (nI (eN E)), .ref mo] M1 (mo + 7) := by
  have fin : ∀ z : Int32, z = nI (eC E) → RW l G Y_Mod_init (rmA 1 6 168) (mm_Z G (rmA 1 6 168) (MiQ M E cm mo)) 0 0 102 [(0, .ref mo), (1, .int n), (2, .int c)] [.int z, .ref mo] (mup M1 mo (miO mo (nI (eN E)) 0)) (mo + 7) := fun z hz => by
    obtain ⟨f1, f2, f3, f4, f5, f6⟩ := hf
    rw [hz]
    exact minit_c hE (mup_self _ _ _) ⟨(mup_ne _ _ (by omega)).trans f1, (mup_ne _ _ (by omega)).trans f2, (mup_ne _ _ (by omega)).trans f3, (mup_ne _ _ (by omega)).trans f4, (mup_ne _ _ (by omega)).trans f5, (mup_ne _ _ (by omega)).trans f6⟩ (fun q z => (mup_ne _ _ (by omega)).trans (hq q z))
  refine rw_put d_Mod_init_79 fQ_Mod_34 h0 (Nat.le_of_ble_eq_true rfl) (by first | rfl | assumption | decide) (by first | rfl | assumption | decide) ?_
  refine rw_aload_n d_Mod_init_82 rfl (by first | exact mm_ref_r _ | exact mm_ref_n | exact mm_ref_o _) ?_
  refine rw_iload_n d_Mod_init_83 rfl ?_
  refine rw_iconst (v := 2) d_Mod_init_84 (by decide) ?_
  refine rw_icmp_ge (tgt := 92) d_Mod_init_85 (by decide) (fun q => ?_) (fun q => ?_)
  · refine rw_iload_n d_Mod_init_92 rfl ?_
    refine rw_iconst (v := 3) d_Mod_init_93 (by decide) ?_
    refine rw_icmp_le (tgt := 101) d_Mod_init_94 (by decide) (fun q2 => ?_) (fun q2 => ?_)
    · refine rw_iload_n d_Mod_init_101 rfl ?_
      exact fin _ (by rw [hc]; exact clp_c3 (lo := 2) (hi := 3) (by omega) (by omega) (Int32.not_lt.mpr q) q2)
    · refine rw_iconst (v := 3) d_Mod_init_97 (by decide) ?_
      refine rw_goto (tgt := 102) d_Mod_init_98 (by decide) ?_
      exact fin _ (by rw [hc]; exact clp_c2 (lo := 2) (hi := 3) (by omega) (by omega) q2)
  · refine rw_iconst (v := 2) d_Mod_init_88 (by decide) ?_
    refine rw_goto (tgt := 102) d_Mod_init_89 (by decide) ?_
    exact fin _ (by rw [hc]; exact clp_c1 (lo := 2) (hi := 3) (by omega) (by omega) (Int32.not_le.mp q))
set_option maxRecDepth 100000 in
theorem c_mInit {n c : Int32} (hE : EOk E) (hn : eN E = clp 3 6 n) (hc : eC E = clp 2 3 c) (hM : M mo = some (.inr (11, [.int 0, .int 0, .null, .null, .null, .null, .null, .int 0, .null, .int 0, .int 0, .int 0, .int 0, .int 0]))) : CT l G Y_Mod_init ds_Mod_init (rmA 1 6 168) [.ref mo, .int n, .int c] M (mo + 1) (MiQ M E cm mo) := by
  refine CT.of (by decide) (Nat.le_of_ble_eq_true rfl) ?_
  refine rw_fewer (kc' := 0 + 1 + 1 + 1 + 1 + 1 + 1) (ks' := 0 + 64 + 8 + 8 + 8 + 40 + 40) (by decide) (by decide) ?_
  refine rw_aload_n d_Mod_init_0 rfl (by first | exact mm_ref_r _ | exact mm_ref_n | exact mm_ref_o _) ?_
  refine rw_objInit d_Mod_init_1 mL_Mod_1 mI_Object_init cO_init (by decide) (by decide) ?_
  refine rw_aload_n d_Mod_init_4 rfl (by first | exact mm_ref_r _ | exact mm_ref_n | exact mm_ref_o _) ?_
  refine rw_bipush (v := 40) d_Mod_init_5 (by decide) ?_
  refine rw_newa (t := 0) (N := 40) (a0 := (40, .inl (fun _ => 0))) d_Mod_init_7 rfl (by decide) aC_int (by decide) (by decide) (by decide) (fun _ => rfl) ?_
  refine rw_put d_Mod_init_9 fQ_Mod_7 (mup_get (by omega) hM) (Nat.le_of_ble_eq_true rfl) (by first | rfl | assumption | decide) (by first | rfl | assumption | decide) ?_
  refine rw_aload_n d_Mod_init_12 rfl (by first | exact mm_ref_r _ | exact mm_ref_n | exact mm_ref_o _) ?_
  refine rw_bipush (v := 40) d_Mod_init_13 (by decide) ?_
  refine rw_newa (t := 1) (N := 40) (a0 := (40, .inl (fun _ => 0))) d_Mod_init_15 rfl (by decide) aC_boolean (by decide) (by decide) (by decide) (fun _ => rfl) ?_
  refine rw_put d_Mod_init_17 fQ_Mod_13 (mup_get (by omega) (mup_self _ _ _)) (Nat.le_of_ble_eq_true rfl) (by first | rfl | assumption | decide) (by first | rfl | assumption | decide) ?_
  refine rw_aload_n d_Mod_init_20 rfl (by first | exact mm_ref_r _ | exact mm_ref_n | exact mm_ref_o _) ?_
  refine rw_bipush (v := 8) d_Mod_init_21 (by decide) ?_
  refine rw_newa (t := 0) (N := 8) (a0 := (8, .inl (fun _ => 0))) d_Mod_init_23 rfl (by decide) aC_int (by decide) (by decide) (by decide) (fun _ => rfl) ?_
  refine rw_put d_Mod_init_25 fQ_Mod_17 (mup_get (by omega) (mup_self _ _ _)) (Nat.le_of_ble_eq_true rfl) (by first | rfl | assumption | decide) (by first | rfl | assumption | decide) ?_
  refine rw_aload_n d_Mod_init_28 rfl (by first | exact mm_ref_r _ | exact mm_ref_n | exact mm_ref_o _) ?_
  refine rw_bipush (v := 8) d_Mod_init_29 (by decide) ?_
  refine rw_newa (t := 0) (N := 8) (a0 := (8, .inl (fun _ => 0))) d_Mod_init_31 rfl (by decide) aC_int (by decide) (by decide) (by decide) (fun _ => rfl) ?_
  refine rw_put d_Mod_init_33 fQ_Mod_20 (mup_get (by omega) (mup_self _ _ _)) (Nat.le_of_ble_eq_true rfl) (by first | rfl | assumption | decide) (by first | rfl | assumption | decide) ?_
  refine rw_aload_n d_Mod_init_36 rfl (by first | exact mm_ref_r _ | exact mm_ref_n | exact mm_ref_o _) ?_
  refine rw_bipush (v := 8) d_Mod_init_37 (by decide) ?_
  refine rw_newa (t := 0) (N := 8) (a0 := (8, .inl (fun _ => 0))) d_Mod_init_39 rfl (by decide) aC_int (by decide) (by decide) (by decide) (fun _ => rfl) ?_
  refine rw_put d_Mod_init_41 fQ_Mod_23 (mup_get (by omega) (mup_self _ _ _)) (Nat.le_of_ble_eq_true rfl) (by first | rfl | assumption | decide) (by first | rfl | assumption | decide) ?_
  refine rw_aload_n d_Mod_init_44 rfl (by first | exact mm_ref_r _ | exact mm_ref_n | exact mm_ref_o _) ?_
  refine rw_bipush (v := 64) d_Mod_init_45 (by decide) ?_
  refine rw_newa (t := 2) (N := 64) (a0 := (64, .inr (.inl (fun _ => 0)))) d_Mod_init_47 rfl (by decide) aC_long (by decide) (by decide) (by decide) (fun _ => rfl) ?_
  refine rw_put d_Mod_init_49 (fP_Mod_26 _) (mup_get (by omega) (mup_self _ _ _)) (Nat.le_of_ble_eq_true rfl) (by first | rfl | assumption | decide) (by first | rfl | assumption | decide) ?_
  refine rw_aload_n d_Mod_init_52 rfl (by first | exact mm_ref_r _ | exact mm_ref_n | exact mm_ref_o _) ?_
  refine rw_iconst (v := 1) d_Mod_init_53 (by decide) ?_
  refine rw_put d_Mod_init_54 (fP_Mod_30 _) (mup_self _ _ _) (Nat.le_of_ble_eq_true rfl) (by first | rfl | assumption | decide) (by first | rfl | assumption | decide) ?_
  have hf : ∀ M1 : mm_M, (∀ q, q < mo → M1 q = M q) → M1 mo = some (miO mo 0 0) → MfP M1 mo → RW l G Y_Mod_init (rmA 1 6 168) (mm_Z G (rmA 1 6 168) (MiQ M E cm mo)) 0 0 57 [(0, .ref mo), (1, .int n), (2, .int c)] [] M1 (mo + 7) := fun M1 w1 w2 w3 => by
    have fin : ∀ z : Int32, z = nI (eN E) → RW l G Y_Mod_init (rmA 1 6 168) (mm_Z G (rmA 1 6 168) (MiQ M E cm mo)) 0 0 79 [(0, .ref mo), (1, .int n), (2, .int c)] [.int z, .ref mo] M1 (mo + 7) := fun z hz => by
      rw [hz]
      exact minit_n hE hc w2 w3 w1
    refine rw_aload_n d_Mod_init_57 rfl (by first | exact mm_ref_r _ | exact mm_ref_n | exact mm_ref_o _) ?_
    refine rw_iload_n d_Mod_init_58 rfl ?_
    refine rw_iconst (v := 3) d_Mod_init_59 (by decide) ?_
    refine rw_icmp_ge (tgt := 67) d_Mod_init_60 (by decide) (fun q => ?_) (fun q => ?_)
    · refine rw_iload_n d_Mod_init_67 rfl ?_
      refine rw_bipush (v := 6) d_Mod_init_68 (by decide) ?_
      refine rw_icmp_le (tgt := 78) d_Mod_init_70 (by decide) (fun q2 => ?_) (fun q2 => ?_)
      · refine rw_iload_n d_Mod_init_78 rfl ?_
        exact fin _ (by rw [hn]; exact clp_c3 (lo := 3) (hi := 6) (by omega) (by omega) (Int32.not_lt.mpr q) q2)
      · refine rw_bipush (v := 6) d_Mod_init_73 (by decide) ?_
        refine rw_goto (tgt := 79) d_Mod_init_75 (by decide) ?_
        exact fin _ (by rw [hn]; exact clp_c2 (lo := 3) (hi := 6) (by omega) (by omega) q2)
    · refine rw_iconst (v := 3) d_Mod_init_63 (by decide) ?_
      refine rw_goto (tgt := 79) d_Mod_init_64 (by decide) ?_
      exact fin _ (by rw [hn]; exact clp_c1 (lo := 3) (hi := 6) (by omega) (by omega) (Int32.not_le.mp q))
  refine hf _ (fun q hq => ?_) ?_ ⟨?_, ?_, ?_, ?_, ?_, ?_⟩
  · simp [mup, show q ≠ mo by omega, show q ≠ mo + 1 by omega, show q ≠ mo + 1 + 1 by omega, show q ≠ mo + 1 + 1 + 1 by omega, show q ≠ mo + 1 + 1 + 1 + 1 by omega, show q ≠ mo + 1 + 1 + 1 + 1 + 1 by omega, show q ≠ mo + 1 + 1 + 1 + 1 + 1 + 1 by omega]
  · rw [mup_self]
    rfl
  · simp [mup]
  · simp [mup]
  · simp [mup]
  · simp [mup]
  · simp [mup]
  · simp [mup]
end MODINIT
