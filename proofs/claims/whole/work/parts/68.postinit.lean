/-! Constructors of Post, Desk, MapKeeper. -/
section INIT2
variable {l : Launch} {G : mm_G} {M : mm_M} {sz : Nat} {E : pE}
/-- a fresh post -/
def PsN (M : mm_M) (p : Nat) : Prop := ∃ sl f, M p = some (.inr (4, [.ref (p + 1), .ref (p + 2), .int 0])) ∧ M (p + 1) = some (aR 4 65 sl) ∧ M (p + 2) = some (aI 64 f) ∧ (∀ i, i < 65 → sl i = some (p + 3 + 5 * i)) ∧ (∀ i, i < 64 → f i = nI i) ∧ ∀ i, i < 65 → MsN M (p + 3 + 5 * i)
theorem MsN.kept {M M' : mm_M} {a : Nat} (h : MsN M a) (hq : ∀ q, a ≤ q → q < a + 5 → M' q = M q) : MsN M' a := ⟨(hq _ (by omega) (by omega)).trans h.1, h.2.kept (fun q y1 y2 => hq q (by omega) (by omega))⟩
theorem PsN.p {M : mm_M} {p : Nat} (h : PsN M p) (G : mm_G) (ca : Nat → Nat) (cm : Nat → pCm) (g : Nat) (E : pE) : PsP G M ca cm g E p [] := by
  obtain ⟨sl, f, h1, h2, h3, h4, h5, h6⟩ := h
  exact ⟨sl, f, id, h1, h2, h3, h4, fun i hi => ⟨h5 i hi, hi⟩, fun i j _ _ e => e, by simp, fun i hi => (h6 i hi).w, fun i m hm => by simp at hm⟩
theorem PsN.kept {M M' : mm_M} {p : Nat} (h : PsN M p) (hq : ∀ q, p ≤ q → q < p + 328 → M' q = M q) : PsN M' p := by
  obtain ⟨sl, f, h1, h2, h3, h4, h5, h6⟩ := h
  exact ⟨sl, f, (hq _ (by omega) (by omega)).trans h1, (hq _ (by omega) (by omega)).trans h2, (hq _ (by omega) (by omega)).trans h3, h4, h5, fun i hi => (h6 i hi).kept (fun q y1 y2 => hq q (by omega) (by omega))⟩
def PiQ (M : mm_M) (a : Nat) : Option Value → mm_M → Nat → Prop := fun r M' sz' => r = none ∧ sz' = a + 328 ∧ PsN M' a ∧ ∀ q, q < a → M' q = M q
theorem post_loop2 {a : Nat} {sl : Nat → Option Nat} (hsl : ∀ i, i < 65 → sl i = some (a + 3 + 5 * i)) : ∀ (m i : Nat) (M1 : mm_M) (f : Nat → Int32), m + i = 64 → M1 a = some (.inr (4, [.ref (a + 1), .ref (a + 2), .int 0])) → M1 (a + 1) = some (aR 4 65 sl) → M1 (a + 2) = some (aI 64 f) → (∀ j, j < i → f j = nI j) → (∀ j, j < 65 → MsN M1 (a + 3 + 5 * j)) → (∀ q, q < a → M1 q = M q) →
    RW l G Y_Post_init (rmA 3 327 4874) (mm_Z G (rmA 3 327 4874) (PiQ M a)) 0 0 50 [(0, .ref a), (1, .int (nI i))] [] M1 (a + 328) := by
  intro m
  induction m with
  | zero =>
    intro i M1 f hi h0 h1 h2 h3 h4 h5
    have : i = 64 := by omega
    subst this
    refine rw_iload_n d_Post_init_50 rfl ?_
    refine rw_bipush (v := 64) d_Post_init_51 (by decide) ?_
    refine rw_icmp_ge_t (tgt := 69) d_Post_init_53 (by decide) (by decide) ?_
    exact rw_vret d_Post_init_69 rfl ⟨rfl, rfl, ⟨sl, f, h0, h1, h2, hsl, h3, h4⟩, h5⟩
  | succ m ih =>
    intro i M1 f hi h0 h1 h2 h3 h4 h5
    refine rw_iload_n d_Post_init_50 rfl ?_
    refine rw_bipush (v := 64) d_Post_init_51 (by decide) ?_
    refine rw_icmp_ge_f (tgt := 69) d_Post_init_53 (by decide) (nI_ge (a := i) (b := 64) (by omega) (by omega)) ?_
    refine rw_aload_n d_Post_init_56 rfl (by first | exact mm_ref_r _ | exact mm_ref_n | exact mm_ref_o _) ?_
    refine rw_get d_Post_init_57 fF_Post_17 h0 rfl ?_
    refine rw_iload_n d_Post_init_60 rfl ?_
    refine rw_iload_n d_Post_init_61 rfl ?_
    refine rw_iast d_Post_init_62 h2 (vp_in_nI (show i < 64 by omega) (by omega)) ?_
    rw [nI_c (by omega)]
    refine rw_iinc d_Post_init_63 (by decide) rfl rfl rfl ?_
    refine rw_lv (lv' := [(0, .ref a), (1, .int (nI (i + 1)))]) (by rw [← nI_1]; intro q hq; simp at hq; rcases hq with rfl | rfl <;> rfl) ?_
    refine rw_goto (tgt := 50) d_Post_init_66 (by decide) ?_
    refine ih (i + 1) _ (upd f i (nI i)) (by omega) (mup_get (by omega) h0) (mup_get (by omega) h1) (mup_self _ _ _) (fun j hj => ?_) (fun j hj => (h4 j hj).kept (fun q y1 y2 => mup_ne _ _ (by omega))) (fun q hq => by rw [mup_ne _ _ (by omega)]; exact h5 q hq)
    by_cases z : j = i
    · subst z
      simp [upd]
    · simp only [upd, if_neg z]
      exact h3 j (by omega)
theorem post_loop1 {a : Nat} : ∀ (m i : Nat) (M1 : mm_M) (sl : Nat → Option Nat), m + i = 65 → M1 a = some (.inr (4, [.ref (a + 1), .ref (a + 2), .int 0])) → M1 (a + 1) = some (aR 4 65 sl) → M1 (a + 2) = some (aI 64 (fun _ => 0)) → (∀ j, j < i → sl j = some (a + 3 + 5 * j)) → (∀ j, j < i → MsN M1 (a + 3 + 5 * j)) → (∀ q, q < a → M1 q = M q) →
    RW l G Y_Post_init (rmA 3 327 4874) (mm_Z G (rmA 3 327 4874) (PiQ M a)) (5 * m) (73 * m) 23 [(0, .ref a), (1, .int (nI i))] [] M1 (a + 3 + 5 * i) := by
  intro m
  induction m with
  | zero =>
    intro i M1 sl hi h0 h1 h2 h3 h4 h5
    have : i = 65 := by omega
    subst this
    refine rw_fewer (kc' := 0) (ks' := 0) (by omega) (by omega) ?_
    refine rw_iload_n d_Post_init_23 rfl ?_
    refine rw_bipush (v := 64) d_Post_init_24 (by decide) ?_
    refine rw_icmp_gt_t (tgt := 48) d_Post_init_26 (by decide) (by decide) ?_
    refine rw_iconst (v := 0) d_Post_init_48 (by decide) ?_
    refine rw_istore_n d_Post_init_49 (by decide) rfl ?_
    refine rw_lv (lv' := [(0, .ref a), (1, .int (nI 0))]) (by intro q hq; simp at hq; rcases hq with rfl | rfl <;> rfl) ?_
    exact post_loop2 h3 64 0 M1 _ (by omega) h0 h1 h2 (fun j hj => by omega) h4 h5
  | succ m ih =>
    intro i M1 sl hi h0 h1 h2 h3 h4 h5
    refine rw_fewer (kc' := 5 * m + 4 + 1) (ks' := 73 * m + 62 + 11) (by omega) (by omega) ?_
    refine rw_iload_n d_Post_init_23 rfl ?_
    refine rw_bipush (v := 64) d_Post_init_24 (by decide) ?_
    refine rw_icmp_gt_f (tgt := 48) d_Post_init_26 (by decide) (nI_nlt (a := 64) (b := i) (by omega) (by omega)) ?_
    refine rw_aload_n d_Post_init_29 rfl (by first | exact mm_ref_r _ | exact mm_ref_n | exact mm_ref_o _) ?_
    refine rw_get d_Post_init_30 fF_Post_11 h0 rfl ?_
    refine rw_iload_n d_Post_init_33 rfl ?_
    refine rw_new (N := 11) (kc := 5 * m + 4) (ks := 73 * m + 62) d_Post_init_34 nN_Post_9 ?_
    refine rw_dup d_Post_init_37 rfl ?_
    refine rw_callIN (kc := 5 * m) (ks := 73 * m) (j := 0) (rest := [.ref (a + 3 + 5 * i), .int (nI i), .ref (a + 1)]) d_Post_init_38 (c_messageInit (mup_self _ _ _)) mW_Message_init rfl mI_Message_init rfl rfl ⟨by decide, by decide⟩ rfl rfl (Nat.le_of_ble_eq_true rfl) (fun r M2 sz2 hq => ?_)
    obtain ⟨rfl, rfl, q1, q2⟩ := hq
    refine rw_stk (st' := [.ref (a + 3 + 5 * i), .int (nI i), .ref (a + 1)]) rfl ?_
    have k2 : ∀ q, q < a + 3 + 5 * i → M2 q = M1 q := fun q hq => (q2 q hq).trans (mup_ne _ _ (by omega))
    refine rw_aast d_Post_init_41 ((k2 (a + 1) (by omega)).trans h1) (by decide) q1.1 rfl rfl (vp_in_nI (show i < 65 by omega) (by omega)) ?_
    rw [nI_c (by omega)]
    refine rw_iinc d_Post_init_42 (by decide) rfl rfl rfl ?_
    refine rw_lv (lv' := [(0, .ref a), (1, .int (nI (i + 1)))]) (by rw [← nI_1]; intro q hq; simp at hq; rcases hq with rfl | rfl <;> rfl) ?_
    refine rw_goto (tgt := 23) d_Post_init_45 (by decide) ?_
    refine ih (i + 1) _ (va_up sl i (some (a + 3 + 5 * i))) (by omega) (mup_get (by omega) ((k2 _ (by omega)).trans h0)) (mup_self _ _ _) (mup_get (by omega) ((k2 _ (by omega)).trans h2)) (fun j hj => ?_) (fun j hj => ?_) (fun q hq => by rw [mup_ne _ _ (by omega), k2 q (by omega)]; exact h5 q hq)
    · by_cases z : j = i
      · subst z
        rw [va_up_self]
      · rw [va_up_ne _ _ z]
        exact h3 j (by omega)
    · by_cases z : j = i
      · subst z
        exact q1.kept (fun q y1 y2 => mup_ne _ _ (by omega))
      · exact (h4 j (by omega)).kept (fun q y1 y2 => by rw [mup_ne _ _ (by omega), k2 q (by omega)])
theorem c_postInit {a : Nat} (hM : M a = some (.inr (4, [.null, .null, .int 0]))) : CT l G Y_Post_init ds_Post_init (rmA 3 327 4874) [.ref a] M (a + 1) (PiQ M a) := by
  refine CT.of (by decide) (Nat.le_of_ble_eq_true rfl) ?_
  refine rw_fewer (kc' := 325 + 1 + 1) (ks' := 4745 + 64 + 65) (by decide) (by decide) ?_
  refine rw_aload_n d_Post_init_0 rfl (by first | exact mm_ref_r _ | exact mm_ref_n | exact mm_ref_o _) ?_
  refine rw_objInit d_Post_init_1 mL_Post_3 mI_Object_init cO_init (by decide) (by decide) ?_
  refine rw_aload_n d_Post_init_4 rfl (by first | exact mm_ref_r _ | exact mm_ref_n | exact mm_ref_o _) ?_
  refine rw_bipush (v := 65) d_Post_init_5 (by decide) ?_
  refine rw_newq (t := 4) (N := 65) d_Post_init_7 (by decide) rfl (fun s hK => hK.2.2.2.2.2.2.1.2.1) cL_Post_9 (by decide) (by decide) (by decide) ?_
  refine rw_put d_Post_init_10 fQ_Post_11 (mup_get (by omega) hM) (Nat.le_of_ble_eq_true rfl) (by first | rfl | assumption | decide) (by first | rfl | assumption | decide) ?_
  refine rw_aload_n d_Post_init_13 rfl (by first | exact mm_ref_r _ | exact mm_ref_n | exact mm_ref_o _) ?_
  refine rw_bipush (v := 64) d_Post_init_14 (by decide) ?_
  refine rw_newa (t := 0) (N := 64) (a0 := (64, .inl (fun _ => 0))) d_Post_init_16 rfl (by decide) aC_int (by decide) (by decide) (by decide) (fun _ => rfl) ?_
  refine rw_put d_Post_init_18 fQ_Post_17 (mup_get (by omega) (mup_self _ _ _)) (Nat.le_of_ble_eq_true rfl) (by first | rfl | assumption | decide) (by first | rfl | assumption | decide) ?_
  refine rw_iconst (v := 0) d_Post_init_21 (by decide) ?_
  refine rw_istore_n d_Post_init_22 (by decide) rfl ?_
  refine rw_lv (lv' := [(0, .ref a), (1, .int (nI 0))]) (by intro q hq; simp at hq; rcases hq with rfl | rfl <;> rfl) ?_
  refine post_loop1 65 0 _ (fun _ => none) (by omega) (mup_self _ _ _) (by simp [mup]) (by simp [mup]) (fun j hj => by omega) (fun j hj => by omega) (fun q hq => ?_)
  rw [mup_ne _ _ (by omega), mup_ne _ _ (by omega), mup_ne _ _ (by omega), mup_ne _ _ (by omega)]
/-- a fresh desk -/
def DkN (M : mm_M) (k p : Nat) : Prop := M k = some (.inr (6, [.ref p, .ref (k + 1), .ref (k + 2), .ref (k + 3), .int 0, .int 0])) ∧ M (k + 1) = some (aR 3 8 (fun _ => none)) ∧ M (k + 2) = some (aZ 8 (fun _ => 0)) ∧ M (k + 3) = some (aI 512 (fun _ => 0))
theorem DkN.p {M : mm_M} {k p : Nat} (h : DkN M k p) (ca : Nat → Nat) (cm : Nat → pCm) : DkP M ca cm k p 0 0 (fun _ => 0) :=
  ⟨_, _, _, h.1, h.2.1, h.2.2.1, h.2.2.2, by omega, by omega, by omega, fun i _ hi => by omega, fun j _ => ⟨rfl, Nat.zero_le _⟩, fun i hi => by omega⟩
theorem c_deskInit {a p : Nat} (hM : M a = some (.inr (6, [.null, .null, .null, .null, .int 0, .int 0]))) : CT l G Y_Desk_init ds_Desk_init (rmA 1 3 528) [.ref a, .ref p] M (a + 1) (fun r M' sz' => r = none ∧ sz' = a + 4 ∧ DkN M' a p ∧ ∀ q, q < a → M' q = M q) := by
  refine CT.of (by decide) (Nat.le_of_ble_eq_true rfl) ?_
  refine rw_fewer (kc' := 0 + 1 + 1 + 1) (ks' := 0 + 512 + 8 + 8) (by decide) (by decide) ?_
  refine rw_aload_n d_Desk_init_0 rfl (by first | exact mm_ref_r _ | exact mm_ref_n | exact mm_ref_o _) ?_
  refine rw_objInit d_Desk_init_1 mL_Desk_3 mI_Object_init cO_init (by decide) (by decide) ?_
  refine rw_aload_n d_Desk_init_4 rfl (by first | exact mm_ref_r _ | exact mm_ref_n | exact mm_ref_o _) ?_
  refine rw_bipush (v := 8) d_Desk_init_5 (by decide) ?_
  refine rw_newq (t := 3) (N := 8) d_Desk_init_7 (by decide) rfl (fun s hK => hK.2.2.2.2.2.2.1.1) cL_Desk_9 (by decide) (by decide) (by decide) ?_
  refine rw_put d_Desk_init_10 fQ_Desk_11 (mup_get (by omega) hM) (Nat.le_of_ble_eq_true rfl) (by first | rfl | assumption | decide) (by first | rfl | assumption | decide) ?_
  refine rw_aload_n d_Desk_init_13 rfl (by first | exact mm_ref_r _ | exact mm_ref_n | exact mm_ref_o _) ?_
  refine rw_bipush (v := 8) d_Desk_init_14 (by decide) ?_
  refine rw_newa (t := 1) (N := 8) (a0 := (8, .inl (fun _ => 0))) d_Desk_init_16 rfl (by decide) aC_boolean (by decide) (by decide) (by decide) (fun _ => rfl) ?_
  refine rw_put d_Desk_init_18 fQ_Desk_17 (mup_get (by omega) (mup_self _ _ _)) (Nat.le_of_ble_eq_true rfl) (by first | rfl | assumption | decide) (by first | rfl | assumption | decide) ?_
  refine rw_aload_n d_Desk_init_21 rfl (by first | exact mm_ref_r _ | exact mm_ref_n | exact mm_ref_o _) ?_
  refine rw_sipush (v := 512) d_Desk_init_22 (by decide) ?_
  refine rw_newa (t := 0) (N := 512) (a0 := (512, .inl (fun _ => 0))) d_Desk_init_25 rfl (by decide) aC_int (by decide) (by decide) (by decide) (fun _ => rfl) ?_
  refine rw_put d_Desk_init_27 fQ_Desk_21 (mup_get (by omega) (mup_self _ _ _)) (Nat.le_of_ble_eq_true rfl) (by first | rfl | assumption | decide) (by first | rfl | assumption | decide) ?_
  refine rw_aload_n d_Desk_init_30 rfl (by first | exact mm_ref_r _ | exact mm_ref_n | exact mm_ref_o _) ?_
  refine rw_aload_n d_Desk_init_31 rfl (by first | exact mm_ref_r _ | exact mm_ref_n | exact mm_ref_o _) ?_
  refine rw_put d_Desk_init_32 fQ_Desk_25 (mup_self _ _ _) (Nat.le_of_ble_eq_true rfl) (by first | rfl | assumption | decide) (by first | rfl | assumption | decide) ?_
  refine rw_vret d_Desk_init_35 rfl ⟨rfl, rfl, ⟨?_, ?_, ?_, ?_⟩, fun q hq => ?_⟩
  · rw [mup_self]
    rfl
  · simp [mup]
  · simp [mup]
  · simp [mup]
  · rw [mup_ne _ _ (by omega), mup_ne _ _ (by omega), mup_ne _ _ (by omega), mup_ne _ _ (by omega), mup_ne _ _ (by omega), mup_ne _ _ (by omega), mup_ne _ _ (by omega)]
end INIT2
