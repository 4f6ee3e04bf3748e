/-! Constructors of Copy, Message, Memory, Reports, Post: cells come one behind another. -/
section CTORS
variable {l : Launch} {G : mm_G} {M : mm_M} {sz : Nat}
/-- a fresh copy -/
abbrev CpN (M : mm_M) (a : Nat) : Prop := CpR M a 0 0 0 (fun _ => 0) (fun _ => 0) (fun _ => none)
theorem CpN.p {M : mm_M} {a : Nat} (h : CpN M a) (ca : Nat → Nat) (cm : Nat → pCm) (g : Nat) : CpP 2 M ca cm g a 0 0 :=
  ⟨_, _, _, _, h, by omega, by omega, fun _ _ => Or.inl rfl, fun _ => ⟨by omega, by omega, by omega, fun i hi => by omega⟩, fun _ => ⟨fun k _ => by simp [tab], fun _ _ => rfl, fun i hi => by omega⟩⟩
theorem CpN.kept {M M' : mm_M} {a : Nat} (h : CpN M a) (hq : ∀ q, a ≤ q → q < a + 4 → M' q = M q) : CpN M' a :=
  ⟨(hq _ (by omega) (by omega)).trans h.1, (hq _ (by omega) (by omega)).trans h.2.1, (hq _ (by omega) (by omega)).trans h.2.2.1, (hq _ (by omega) (by omega)).trans h.2.2.2⟩
theorem c_copyInit {a : Nat} (hM : M a = some (.inr (1, [.int 0, .int 0, .long 0, .null, .null, .null]))) : CT l G Y_Copy_init ds_Copy_init (rmA 1 3 56) [.ref a] M (a + 1) (fun r M' sz' => r = none ∧ sz' = a + 4 ∧ CpN M' a ∧ ∀ q, q < a → M' q = M q) := by
  refine CT.of (by decide) (Nat.le_of_ble_eq_true rfl) ?_
  refine rw_fewer (kc' := 0 + 1 + 1 + 1) (ks' := 0 + 8 + 8 + 40) (by decide) (by decide) ?_
  refine rw_aload_n d_Copy_init_0 rfl (by first | exact mm_ref_r _ | exact mm_ref_n | exact mm_ref_o _) ?_
  refine rw_objInit d_Copy_init_1 mL_Copy_3 mI_Object_init cO_init (by decide) (by decide) ?_
  refine rw_aload_n d_Copy_init_4 rfl (by first | exact mm_ref_r _ | exact mm_ref_n | exact mm_ref_o _) ?_
  refine rw_bipush (v := 40) d_Copy_init_5 (by decide) ?_
  refine rw_newa (t := 0) (N := 40) (a0 := (40, .inl (fun _ => 0))) d_Copy_init_7 rfl (by decide) aC_int (by decide) (by decide) (by decide) (fun _ => rfl) ?_
  refine rw_put d_Copy_init_9 fQ_Copy_9 (mup_get (by omega) hM) (Nat.le_of_ble_eq_true rfl) (by first | rfl | assumption | decide) (by first | rfl | decide) ?_
  refine rw_aload_n d_Copy_init_12 rfl (by first | exact mm_ref_r _ | exact mm_ref_n | exact mm_ref_o _) ?_
  refine rw_bipush (v := 8) d_Copy_init_13 (by decide) ?_
  refine rw_newa (t := 0) (N := 8) (a0 := (8, .inl (fun _ => 0))) d_Copy_init_15 rfl (by decide) aC_int (by decide) (by decide) (by decide) (fun _ => rfl) ?_
  refine rw_put d_Copy_init_17 fQ_Copy_15 (mup_get (by omega) (mup_self _ _ _)) (Nat.le_of_ble_eq_true rfl) (by first | rfl | assumption | decide) (by first | rfl | decide) ?_
  refine rw_aload_n d_Copy_init_20 rfl (by first | exact mm_ref_r _ | exact mm_ref_n | exact mm_ref_o _) ?_
  refine rw_bipush (v := 8) d_Copy_init_21 (by decide) ?_
  refine rw_newq (t := 3) (N := 8) d_Copy_init_23 (by decide) rfl (fun s hK => hK.2.2.2.2.2.2.1.1) cL_Copy_18 (by decide) (by decide) (by decide) ?_
  refine rw_put d_Copy_init_26 fQ_Copy_20 (mup_get (by omega) (mup_self _ _ _)) (Nat.le_of_ble_eq_true rfl) (by first | rfl | assumption | decide) (by first | rfl | decide) ?_
  refine rw_vret d_Copy_init_29 rfl ⟨rfl, rfl, ⟨?_, ?_, ?_, ?_⟩, fun q hq => ?_⟩
  · rw [mup_self]
    rfl
  · simp [mup]
  · simp [mup]
  · simp [mup]
  · rw [mup_ne _ _ (by omega), mup_ne _ _ (by omega), mup_ne _ _ (by omega), mup_ne _ _ (by omega), mup_ne _ _ (by omega), mup_ne _ _ (by omega)]
/-- a fresh message: at a, its copy behind it -/
abbrev MsN (M : mm_M) (a : Nat) : Prop := M a = some (.inr (3, [.null, .int 0, .int 0, .int 0, .int 0, .int 0, .int 0, .int 0, .int 0, .null, .ref (a + 1)])) ∧ CpN M (a + 1)
theorem c_messageInit {a : Nat} (hM : M a = some (.inr (3, [.null, .int 0, .int 0, .int 0, .int 0, .int 0, .int 0, .int 0, .int 0, .null, .null]))) : CT l G Y_Message_init ds_Message_init (rmA 2 4 62) [.ref a] M (a + 1) (fun r M' sz' => r = none ∧ sz' = a + 5 ∧ MsN M' a ∧ ∀ q, q < a → M' q = M q) := by
  refine CT.of (by decide) (Nat.le_of_ble_eq_true rfl) ?_
  refine rw_aload_n d_Message_init_0 rfl (by first | exact mm_ref_r _ | exact mm_ref_n | exact mm_ref_o _) ?_
  refine rw_objInit d_Message_init_1 mL_Message_1 mI_Object_init cO_init (by decide) (by decide) ?_
  refine rw_aload_n d_Message_init_4 rfl (by first | exact mm_ref_r _ | exact mm_ref_n | exact mm_ref_o _) ?_
  refine rw_new (N := 6) (kc := 3) (ks := 56) d_Message_init_5 nN_Message_7 ?_
  refine rw_dup d_Message_init_8 rfl ?_
  refine rw_callIN (kc := 0) (ks := 0) (j := 1) (rest := [.ref (a + 1), .ref a]) d_Message_init_9 (c_copyInit (mup_self _ _ _)) mW_Copy_init rfl mI_Copy_init rfl rfl ⟨by decide, by decide⟩ rfl rfl (Nat.le_of_ble_eq_true rfl) (fun r M1 sz1 hq => ?_)
  obtain ⟨rfl, rfl, q1, q2⟩ := hq
  refine rw_stk (st' := [.ref (a + 1), .ref a]) rfl ?_
  refine rw_put d_Message_init_12 fQ_Message_10 ((q2 a (by omega)).trans (mup_get (by omega) hM)) (Nat.le_of_ble_eq_true rfl) (by first | rfl | assumption | decide) (by first | rfl | decide) ?_
  refine rw_vret d_Message_init_15 rfl ⟨rfl, rfl, ⟨?_, ?_⟩, fun q hq => ?_⟩
  · rw [mup_self]
    rfl
  · exact q1.kept (fun q h1 h2 => mup_ne _ _ (by omega))
  · rw [mup_ne _ _ (by omega), q2 q (by omega), mup_ne _ _ (by omega)]
abbrev MeN (M : mm_M) (a : Nat) : Prop := M a = some (.inr (7, [.int 0, .int 0, .int 0, .ref (a + 1)])) ∧ CpN M (a + 1)
theorem c_memoryInit {a : Nat} (hM : M a = some (.inr (7, [.int 0, .int 0, .int 0, .null]))) : CT l G Y_Memory_init ds_Memory_init (rmA 2 4 62) [.ref a] M (a + 1) (fun r M' sz' => r = none ∧ sz' = a + 5 ∧ MeN M' a ∧ ∀ q, q < a → M' q = M q) := by
  refine CT.of (by decide) (Nat.le_of_ble_eq_true rfl) ?_
  refine rw_aload_n d_Memory_init_0 rfl (by first | exact mm_ref_r _ | exact mm_ref_n | exact mm_ref_o _) ?_
  refine rw_objInit d_Memory_init_1 mL_Memory_1 mI_Object_init cO_init (by decide) (by decide) ?_
  refine rw_aload_n d_Memory_init_4 rfl (by first | exact mm_ref_r _ | exact mm_ref_n | exact mm_ref_o _) ?_
  refine rw_new (N := 6) (kc := 3) (ks := 56) d_Memory_init_5 nN_Memory_7 ?_
  refine rw_dup d_Memory_init_8 rfl ?_
  refine rw_callIN (kc := 0) (ks := 0) (j := 3) (rest := [.ref (a + 1), .ref a]) d_Memory_init_9 (c_copyInit (mup_self _ _ _)) mW_Copy_init rfl mI_Copy_init rfl rfl ⟨by decide, by decide⟩ rfl rfl (Nat.le_of_ble_eq_true rfl) (fun r M1 sz1 hq => ?_)
  obtain ⟨rfl, rfl, q1, q2⟩ := hq
  refine rw_stk (st' := [.ref (a + 1), .ref a]) rfl ?_
  refine rw_put d_Memory_init_12 fQ_Memory_10 ((q2 a (by omega)).trans (mup_get (by omega) hM)) (Nat.le_of_ble_eq_true rfl) (by first | rfl | assumption | decide) (by first | rfl | decide) ?_
  refine rw_vret d_Memory_init_15 rfl ⟨rfl, rfl, ⟨?_, ?_⟩, fun q hq => ?_⟩
  · rw [mup_self]
    rfl
  · exact q1.kept (fun q h1 h2 => mup_ne _ _ (by omega))
  · rw [mup_ne _ _ (by omega), q2 q (by omega), mup_ne _ _ (by omega)]
/-- reports at a: arrays behind it -/
def RpR (M : mm_M) (a N : Nat) (hd en dn : Nat → Int32) (rd : Int32) (ba : Int32) : Prop := M a = some (.inr (8, [.ref (a + 1), .ref (a + 2), .ref (a + 3), .int rd, .int ba])) ∧ M (a + 1) = some (aZ N hd) ∧ M (a + 2) = some (aI N en) ∧ M (a + 3) = some (aI N dn)
theorem c_reportsInit {a N : Nat} (hM : M a = some (.inr (8, [.null, .null, .null, .int 0, .int 0]))) (hN : N < 7) : CT l G Y_Reports_init ds_Reports_init (rmA 1 3 (3 * N)) [.ref a, .int (nI N)] M (a + 1) (fun r M' sz' => r = none ∧ sz' = a + 4 ∧ RpR M' a N (fun _ => 0) (fun _ => 0) (fun _ => 0) 0 0 ∧ ∀ q, q < a → M' q = M q) := by
  have n0 : ¬ nI N < 0 := nI_pos (by omega)
  have nc : (nI N).toNatClampNeg = N := nI_c (by omega)
  refine CT.of (by decide) (Nat.le_of_ble_eq_true rfl) ?_
  refine rw_fewer (kc' := 0 + 1 + 1 + 1) (ks' := 0 + N + N + N) (Nat.le_of_ble_eq_true rfl) (by show 0 + N + N + N ≤ 3 * N; omega) ?_
  refine rw_aload_n d_Reports_init_0 rfl (by first | exact mm_ref_r _ | exact mm_ref_n | exact mm_ref_o _) ?_
  refine rw_objInit d_Reports_init_1 mL_Reports_3 mI_Object_init cO_init (Nat.le_of_ble_eq_true rfl) (Nat.le_of_ble_eq_true rfl) ?_
  refine rw_aload_n d_Reports_init_4 rfl (by first | exact mm_ref_r _ | exact mm_ref_n | exact mm_ref_o _) ?_
  refine rw_iload_n d_Reports_init_5 rfl ?_
  refine rw_newa (t := 1) (N := N) (a0 := (N, .inl (fun _ => 0))) d_Reports_init_6 rfl (by decide) aC_boolean n0 nc (by simp [mm_ty, componentBytes]; omega) (fun _ => rfl) ?_
  refine rw_put d_Reports_init_8 fQ_Reports_9 (mup_get (by omega) hM) (Nat.le_of_ble_eq_true rfl) (by first | rfl | assumption | decide) (by first | rfl | decide) ?_
  refine rw_aload_n d_Reports_init_11 rfl (by first | exact mm_ref_r _ | exact mm_ref_n | exact mm_ref_o _) ?_
  refine rw_iload_n d_Reports_init_12 rfl ?_
  refine rw_newa (t := 0) (N := N) (a0 := (N, .inl (fun _ => 0))) d_Reports_init_13 rfl (by decide) aC_int n0 nc (by simp [mm_ty, componentBytes]; omega) (fun _ => rfl) ?_
  refine rw_put d_Reports_init_15 fQ_Reports_15 (mup_get (by omega) (mup_self _ _ _)) (Nat.le_of_ble_eq_true rfl) (by first | rfl | assumption | decide) (by first | rfl | decide) ?_
  refine rw_aload_n d_Reports_init_18 rfl (by first | exact mm_ref_r _ | exact mm_ref_n | exact mm_ref_o _) ?_
  refine rw_iload_n d_Reports_init_19 rfl ?_
  refine rw_newa (t := 0) (N := N) (a0 := (N, .inl (fun _ => 0))) d_Reports_init_20 rfl (by decide) aC_int n0 nc (by simp [mm_ty, componentBytes]; omega) (fun _ => rfl) ?_
  refine rw_put d_Reports_init_22 fQ_Reports_19 (mup_get (by omega) (mup_self _ _ _)) (Nat.le_of_ble_eq_true rfl) (by first | rfl | assumption | decide) (by first | rfl | decide) ?_
  refine rw_vret d_Reports_init_25 rfl ⟨rfl, rfl, ⟨?_, ?_, ?_, ?_⟩, fun q hq => ?_⟩
  · rw [mup_self]
    rfl
  · simp [mup]
  · simp [mup]
  · simp [mup]
  · rw [mup_ne _ _ (by omega), mup_ne _ _ (by omega), mup_ne _ _ (by omega), mup_ne _ _ (by omega), mup_ne _ _ (by omega), mup_ne _ _ (by omega)]
end CTORS
