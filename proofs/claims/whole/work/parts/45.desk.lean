/-! The desk. -/
theorem tab_up {cm : Nat → pCm} {c : pCm} {g : Nat} : ∀ d, d ≤ g → tab (va_up cm g c) d = tab cm d := by
  intro d
  induction d with
  | zero => intro _; rfl
  | succ n ih =>
    intro h
    rw [tab, tab, ih (by omega), va_up_ne _ _ (by omega)]
theorem tAns_up {cm : Nat → pCm} {c : pCm} {g i : Nat} (h : i < g) : tAns (va_up cm g c) i = tAns cm i := by
  unfold tAns
  rw [tab_up i (by omega), va_up_ne _ _ (by omega)]
def DkP (M : mm_M) (ca : Nat → Nat) (cm : Nat → pCm) (k p gv td : Nat) (ar : Nat → Nat) : Prop := ∃ cs arr an, M k = some (.inr (6, [.ref p, .ref (k + 1), .ref (k + 2), .ref (k + 3), .int (nI gv), .int (nI td)])) ∧ M (k + 1) = some (aR 3 8 cs) ∧ M (k + 2) = some (aZ 8 arr) ∧ M (k + 3) = some (aI 512 an) ∧
  td ≤ gv ∧ gv ≤ td + 8 ∧ gv ≤ 512 ∧ (∀ i, td ≤ i → i < gv → cs (i % 8) = some (ca i)) ∧ (∀ j, j < 8 → arr j = nI (ar j) ∧ ar j ≤ 1) ∧ ∀ i, i < gv → i < td ∨ ar (i % 8) = 1 → an i = tAns cm i
theorem DkP.kept {M M' : mm_M} {ca : Nat → Nat} {cm : Nat → pCm} {k p gv td : Nat} {ar : Nat → Nat} (h : DkP M ca cm k p gv td ar) (hq : ∀ q, k ≤ q → q < k + 4 → M' q = M q) : DkP M' ca cm k p gv td ar := by
  obtain ⟨cs, arr, an, h0, h1, h2, h3, hr⟩ := h
  exact ⟨cs, arr, an, (hq _ (by omega) (by omega)).trans h0, (hq _ (by omega) (by omega)).trans h1, (hq _ (by omega) (by omega)).trans h2, (hq _ (by omega) (by omega)).trans h3, hr⟩
def pReq1 (ld ep i : Nat) : List pMsg := if ld = 99 then [] else [(2, 99, ld, ep, i, 0)]
def pReqs (ld ep : Nat) (ar : Nat → Nat) (td : Nat) : Nat → List pMsg
  | 0 => []
  | n + 1 => pReqs ld ep ar td n ++ (if ar ((td + n) % 8) = 1 then [] else pReq1 ld ep (td + n))
section DESK
variable {l : Launch} {G : mm_G} {sz : Nat} {ca : Nat → Nat} {cm : Nat → pCm} {g : Nat} {E : pE}
theorem c_open {M : mm_M} {k p gv td : Nat} {ar : Nat → Nat} (hD : DkP M ca cm k p gv td ar) : CT l G Y_Desk_open ds_Desk_open (rm 1) [.ref k] M sz (NuQ M sz (gv - td)) := by
  obtain ⟨cs, arr, an, h0, h1, h2, h3, b1, b2, b3, b4, b5, b6⟩ := hD
  refine CT.of (by decide) (Nat.le_of_ble_eq_true rfl) ?_
  refine rw_aload_n d_Desk_open_0 rfl (by first | exact mm_ref_r _ | exact mm_ref_n | exact mm_ref_o _) ?_
  refine rw_get d_Desk_open_1 fF_Desk_29 h0 rfl ?_
  refine rw_aload_n d_Desk_open_4 rfl (by first | exact mm_ref_r _ | exact mm_ref_n | exact mm_ref_o _) ?_
  refine rw_get d_Desk_open_5 fF_Desk_33 h0 rfl ?_
  refine rw_isub d_Desk_open_8 ?_
  exact rw_iret d_Desk_open_9 rfl ⟨by rw [nI_sub b1], rfl, rfl⟩
theorem c_isFull {M : mm_M} {k p gv td : Nat} {ar : Nat → Nat} (hD : DkP M ca cm k p gv td ar) : CT l G Y_Desk_isFull ds_Desk_isFull (rm 2) [.ref k] M sz (fun r M' sz' => r = some (.int (bI (decide (8 ≤ gv - td ∨ 512 ≤ gv)))) ∧ M' = M ∧ sz' = sz) := by
  obtain ⟨cs, arr, an, h0, h1, h2, h3, b1, b2, b3, b4, b5, b6⟩ := id hD
  refine CT.of (by decide) (Nat.le_of_ble_eq_true rfl) ?_
  refine rw_aload_n d_Desk_isFull_0 rfl (by first | exact mm_ref_r _ | exact mm_ref_n | exact mm_ref_o _) ?_
  refine rw_callV (kc := 0) (ks := 0) (rest := []) d_Desk_isFull_1 (c_open hD) mW_Desk_open mL_Desk_36 mI_Desk_open mE_Desk_open ⟨by decide, by decide⟩ h0 rfl rfl rfl rfl (Nat.le_of_ble_eq_true rfl) (fun r M1 sz1 hq => ?_)
  obtain ⟨rfl, rfl, rfl⟩ := hq
  refine rw_stk (st' := [.int (nI (gv - td))]) rfl ?_
  refine rw_bipush (v := 8) d_Desk_isFull_4 (by decide) ?_
  by_cases q : 8 ≤ gv - td
  · refine rw_icmp_ge_t (tgt := 19) d_Desk_isFull_6 (by decide) (nI_le (a := 8) q (by omega)) ?_
    refine rw_iconst (v := 1) d_Desk_isFull_19 (by decide) ?_
    refine rw_goto (tgt := 24) d_Desk_isFull_20 (by decide) ?_
    exact rw_zret d_Desk_isFull_24 rfl rfl ⟨by rw [decide_eq_true (Or.inl q)]; rfl, rfl, rfl⟩
  · refine rw_icmp_ge_f (tgt := 19) d_Desk_isFull_6 (by decide) (nI_ge (b := 8) (by omega) (by omega)) ?_
    refine rw_aload_n d_Desk_isFull_9 rfl (by first | exact mm_ref_r _ | exact mm_ref_n | exact mm_ref_o _) ?_
    refine rw_get d_Desk_isFull_10 fF_Desk_29 h0 rfl ?_
    refine rw_sipush (v := 512) d_Desk_isFull_13 (by decide) ?_
    by_cases q2 : 512 ≤ gv
    · refine rw_icmp_lt_f (tgt := 23) d_Desk_isFull_16 (by decide) (nI_nlt (b := 512) q2 (by omega)) ?_
      refine rw_iconst (v := 1) d_Desk_isFull_19 (by decide) ?_
      refine rw_goto (tgt := 24) d_Desk_isFull_20 (by decide) ?_
      exact rw_zret d_Desk_isFull_24 rfl rfl ⟨by rw [decide_eq_true (Or.inr q2)]; rfl, rfl, rfl⟩
    · refine rw_icmp_lt_t (tgt := 23) d_Desk_isFull_16 (by decide) (nI_lt (b := 512) (by omega) (by omega)) ?_
      refine rw_iconst (v := 0) d_Desk_isFull_23 (by decide) ?_
      exact rw_zret d_Desk_isFull_24 rfl rfl ⟨by rw [decide_eq_false (by omega)]; rfl, rfl, rfl⟩
theorem c_commandInit {M : mm_M} {a i kd k : Nat} {v : Int32} (hM : M a = some (.inr (0, [.int 0, .int 0, .int 0, .int 0]))) : CT l G Y_Command_init ds_Command_init (rm 1) [.ref a, .int (nI i), .int (nI kd), .int (nI k), .int v] M sz (fun r M' sz' => r = none ∧ sz' = sz ∧ M' a = some (cmO i (kd, k, v)) ∧ ∀ q, q ≠ a → M' q = M q) := by
  refine CT.of (by decide) (Nat.le_of_ble_eq_true rfl) ?_
  refine rw_aload_n d_Command_init_0 rfl (by first | exact mm_ref_r _ | exact mm_ref_n | exact mm_ref_o _) ?_
  refine rw_objInit d_Command_init_1 mL_Command_1 mI_Object_init cO_init (by decide) (by decide) ?_
  refine rw_aload_n d_Command_init_4 rfl (by first | exact mm_ref_r _ | exact mm_ref_n | exact mm_ref_o _) ?_
  refine rw_iload_n d_Command_init_5 rfl ?_
  refine rw_put d_Command_init_6 fQ_Command_7 hM (Nat.le_of_ble_eq_true rfl) (by first | rfl | assumption | decide) (by first | rfl | decide) ?_
  refine rw_aload_n d_Command_init_9 rfl (by first | exact mm_ref_r _ | exact mm_ref_n | exact mm_ref_o _) ?_
  refine rw_iload_n d_Command_init_10 rfl ?_
  refine rw_put d_Command_init_11 fQ_Command_13 (mup_self _ _ _) (Nat.le_of_ble_eq_true rfl) (by first | rfl | assumption | decide) (by first | rfl | decide) ?_
  refine rw_aload_n d_Command_init_14 rfl (by first | exact mm_ref_r _ | exact mm_ref_n | exact mm_ref_o _) ?_
  refine rw_iload_n d_Command_init_15 rfl ?_
  refine rw_put d_Command_init_16 fQ_Command_16 (mup_self _ _ _) (Nat.le_of_ble_eq_true rfl) (by first | rfl | assumption | decide) (by first | rfl | decide) ?_
  refine rw_aload_n d_Command_init_19 rfl (by first | exact mm_ref_r _ | exact mm_ref_n | exact mm_ref_o _) ?_
  refine rw_iload d_Command_init_20 rfl ?_
  refine rw_put d_Command_init_22 fQ_Command_19 (mup_self _ _ _) (Nat.le_of_ble_eq_true rfl) (by first | rfl | assumption | decide) (by first | rfl | decide) ?_
  refine rw_vret d_Command_init_25 rfl ⟨rfl, rfl, ?_, fun q hq => ?_⟩
  · rw [mup_self]
    rfl
  · rw [mup_ne _ _ hq, mup_ne _ _ hq, mup_ne _ _ hq, mup_ne _ _ hq]
theorem c_accept {M : mm_M} {k p gv td kd x : Nat} {v : Int32} {ar : Nat → Nat} (hD : DkP M ca cm k p gv td ar) (hf : gv < td + 8) (hf2 : gv < 512) (hsz : k + 4 ≤ sz) : CT l G Y_Desk_accept ds_Desk_accept (rmA 2 1 4) [.ref k, .int (nI kd), .int (nI x), .int v] M sz
    (fun r M' sz' => r = some (.ref sz) ∧ sz' = sz + 1 ∧ M' sz = some (cmO gv (kd, x, v)) ∧ DkP M' (va_up ca gv sz) (va_up cm gv (kd, x, v)) k p (gv + 1) td (va_up ar (gv % 8) 0) ∧ ∀ q, q < sz → q < k ∨ k + 4 ≤ q → M' q = M q) := by
  obtain ⟨cs, arr, an, h0, h1, h2, h3, b1, b2, b3, b4, b5, b6⟩ := id hD
  refine CT.of (by decide) (Nat.le_of_ble_eq_true rfl) ?_
  refine rw_new (N := 4) (kc := 0) (ks := 0) d_Desk_accept_0 nN_Desk_9 ?_
  refine rw_dup d_Desk_accept_3 rfl ?_
  refine rw_aload_n d_Desk_accept_4 rfl (by first | exact mm_ref_r _ | exact mm_ref_n | exact mm_ref_o _) ?_
  refine rw_get d_Desk_accept_5 fF_Desk_29 (mup_get (by omega) h0) rfl ?_
  refine rw_iload_n d_Desk_accept_8 rfl ?_
  refine rw_iload_n d_Desk_accept_9 rfl ?_
  refine rw_iload_n d_Desk_accept_10 rfl ?_
  refine rw_callI (kc := 0) (ks := 0) (rest := [.ref sz]) d_Desk_accept_11 (c_commandInit (i := gv) (kd := kd) (k := x) (v := v) (mup_self _ _ _)) mW_Command_init mL_Desk_40 mI_Command_init rfl rfl ⟨by decide, by decide⟩ rfl rfl (Nat.le_of_ble_eq_true rfl) (fun r M1 sz1 hq => ?_)
  obtain ⟨rfl, rfl, q1, q2⟩ := hq
  have e : ∀ y, y < sz → M1 y = M y := fun y hy => (q2 y (by omega)).trans (mup_ne _ _ (by omega))
  refine rw_stk (st' := [.ref sz]) rfl ?_
  refine rw_astore d_Desk_accept_14 (by decide) (by first | exact mm_ref_r _ | exact mm_ref_n | exact mm_ref_o _) rfl ?_
  refine rw_aload_n d_Desk_accept_16 rfl (by first | exact mm_ref_r _ | exact mm_ref_n | exact mm_ref_o _) ?_
  refine rw_get d_Desk_accept_17 fF_Desk_11 ((e k (by omega)).trans h0) rfl ?_
  refine rw_aload_n d_Desk_accept_20 rfl (by first | exact mm_ref_r _ | exact mm_ref_n | exact mm_ref_o _) ?_
  refine rw_get d_Desk_accept_21 fF_Desk_29 ((e k (by omega)).trans h0) rfl ?_
  refine rw_bipush (v := 8) d_Desk_accept_24 (by decide) ?_
  refine rw_irem d_Desk_accept_26 (by decide) ?_
  rw [nI_rem8 (by omega)]
  refine rw_aload d_Desk_accept_27 rfl (by first | exact mm_ref_r _ | exact mm_ref_n | exact mm_ref_o _) ?_
  refine rw_aast d_Desk_accept_29 ((e (k + 1) (by omega)).trans h1) (by decide) q1 rfl rfl (vp_in8 gv) ?_
  rw [nI_c8]
  refine rw_aload_n d_Desk_accept_30 rfl (by first | exact mm_ref_r _ | exact mm_ref_n | exact mm_ref_o _) ?_
  refine rw_get d_Desk_accept_31 fF_Desk_17 (mup_get (by omega) ((e k (by omega)).trans h0)) rfl ?_
  refine rw_aload_n d_Desk_accept_34 rfl (by first | exact mm_ref_r _ | exact mm_ref_n | exact mm_ref_o _) ?_
  refine rw_get d_Desk_accept_35 fF_Desk_29 (mup_get (by omega) ((e k (by omega)).trans h0)) rfl ?_
  refine rw_bipush (v := 8) d_Desk_accept_38 (by decide) ?_
  refine rw_irem d_Desk_accept_40 (by decide) ?_
  rw [nI_rem8 (by omega)]
  refine rw_iconst (v := 0) d_Desk_accept_41 (by decide) ?_
  refine rw_zast d_Desk_accept_42 (mup_get (by omega) ((e (k + 2) (by omega)).trans h2)) (vp_in8 gv) (by first | rfl | assumption | decide) ?_
  rw [nI_c8]
  refine rw_aload_n d_Desk_accept_43 rfl (by first | exact mm_ref_r _ | exact mm_ref_n | exact mm_ref_o _) ?_
  refine rw_dup d_Desk_accept_44 rfl ?_
  refine rw_get d_Desk_accept_45 fF_Desk_29 (mup_get (by omega) (mup_get (by omega) ((e k (by omega)).trans h0))) rfl ?_
  refine rw_iconst (v := 1) d_Desk_accept_48 (by decide) ?_
  refine rw_iadd d_Desk_accept_49 ?_
  refine rw_put d_Desk_accept_50 (fP_Desk_29 _) (mup_get (by omega) (mup_get (by omega) ((e k (by omega)).trans h0))) (Nat.le_of_ble_eq_true rfl) (by first | rfl | assumption | decide) (by first | rfl | decide) ?_
  refine rw_aload d_Desk_accept_53 rfl (by first | exact mm_ref_r _ | exact mm_ref_n | exact mm_ref_o _) ?_
  refine rw_aret d_Desk_accept_55 rfl (mm_ref_r _) ⟨rfl, rfl, ?_, ⟨va_up cs (gv % 8) (some sz), upd arr (gv % 8) 0, an, ?_, ?_, ?_, ?_, by omega, by omega, by omega, fun i i1 i2 => ?_, fun j hj => ?_, fun i i1 i2 => ?_⟩, fun q y1 y2 => ?_⟩
  · rw [mup_ne _ _ (by omega), mup_ne _ _ (by omega), mup_ne _ _ (by omega)]
    exact q1
  · rw [mup_self]
    show some (Sum.inr (6, [_, _, _, _, Value.int (nI gv + 1), _])) = _
    rw [nI_1]
  · rw [mup_ne _ _ (by omega), mup_ne _ _ (by omega), mup_self]
  · rw [mup_ne _ _ (by omega), mup_self]
  · rw [mup_ne _ _ (by omega), mup_ne _ _ (by omega), mup_ne _ _ (by omega)]
    exact (e (k + 3) (by omega)).trans h3
  · by_cases z : i = gv
    · subst z
      rw [va_up_self, va_up_self]
    · rw [va_up_ne _ _ (by omega), va_up_ne _ _ z]
      exact b4 i i1 (by omega)
  · by_cases z : j = gv % 8
    · rw [z, va_up_self]
      simp [upd]
      rfl
    · rw [va_up_ne _ _ z]
      simp [upd, z, b5 j hj]
  · by_cases z : i = gv
    · subst z
      rcases i2 with i2 | i2
      · omega
      · rw [va_up_self] at i2
        cases i2
    · rw [tAns_up (by omega)]
      refine b6 i (by omega) (i2.imp id (fun w => ?_))
      by_cases z2 : i % 8 = gv % 8
      · rw [z2, va_up_self] at w
        cases w
      · rw [va_up_ne _ _ z2] at w
        exact w
  · rw [mup_ne _ _ (by omega), mup_ne _ _ (by omega), mup_ne _ _ (by omega)]
    exact e q y1
theorem c_request {M : mm_M} {k p ld ep i : Nat} {post : List pMsg} {gv td : Nat} {ar : Nat → Nat} (hD : DkP M ca cm k p gv td ar) (hP : PsP G M ca cm g E p post) (hi : i < g) (hA : CmA M ca cm g) (hl : ld = 99 ∨ ld < 7) : CT l G Y_Desk_request ds_Desk_request (rm 2) [.ref k, .ref (ca i), .int (gI ld), .int (nI ep)] M sz (SnQ G M sz ca cm g E p (pSend post (pReq1 ld ep i))) := by
  obtain ⟨cs, arr, an, h0, -⟩ := id hD
  refine CT.of (by decide) (Nat.le_of_ble_eq_true rfl) ?_
  refine rw_iload_n d_Desk_request_0 rfl ?_
  refine rw_iconst (v := (-1)) d_Desk_request_1 (by decide) ?_
  rcases hl with rfl | hl
  · refine rw_icmp_eq_t (tgt := 22) d_Desk_request_2 (by decide) (rfl) ?_
    exact rw_vret d_Desk_request_22 rfl ⟨rfl, rfl, by rw [pReq1, if_pos rfl, pSend_nil hP.len]; exact hP, Fr.rf⟩
  · have e9 : gI ld = nI ld := by rw [gI, if_neg (by omega)]
    have ne9 : ¬ gI ld = -1 := fun z => by
      rw [e9] at z
      have := congrArg Int32.toInt z
      rw [nI_toInt (by omega)] at this
      have h5 : (-1 : Int32).toInt = -1 := by decide
      omega
    refine rw_icmp_eq_f (tgt := 22) d_Desk_request_2 (by decide) (ne9) ?_
    refine rw_aload_n d_Desk_request_5 rfl (by first | exact mm_ref_r _ | exact mm_ref_n | exact mm_ref_o _) ?_
    refine rw_get d_Desk_request_6 fF_Desk_25 h0 rfl ?_
    refine rw_kind (i := 2) (by decide) fS_Desk_43 d_Desk_request_9 ?_
    refine rw_iconst (v := (-1)) d_Desk_request_12 (by decide) ?_
    refine rw_iload_n d_Desk_request_13 rfl ?_
    refine rw_iload_n d_Desk_request_14 rfl ?_
    refine rw_stk (st' := [.int (nI ep), .int (gI ld), .int (gI 99), .ref (gad G 2), .ref p]) rfl ?_
    refine rw_callV (kc := 0) (ks := 0) (rest := []) d_Desk_request_15 (c_send (k := 2) (f := 99) (t := ld) (e := ep) hP) mW_Post_send mL_Desk_49 mI_Post_send mE_Post_send ⟨by decide, by decide⟩ hP.choose_spec.choose_spec.choose_spec.1 rfl rfl rfl rfl (Nat.le_of_ble_eq_true rfl) (fun r M2 sz2 hq => ?_)
    obtain ⟨rfl, q1, j, hj, rfl, ⟨s, en, dn, nu, a2, cv, d, b, w1, w2, w3⟩, q2⟩ := hq
    refine rw_stk (st' := [.ref (p + 3 + 5 * j)]) rfl ?_
    refine rw_aload_n d_Desk_request_18 rfl (by first | exact mm_ref_r _ | exact mm_ref_n | exact mm_ref_o _) ?_
    refine rw_put d_Desk_request_19 (fP_Desk_55 _) w1 (Nat.le_of_ble_eq_true rfl) (by first | rfl | assumption | decide) (by first | rfl | decide) ?_
    refine rw_vret d_Desk_request_22 rfl ⟨rfl, rfl, ?_, Fr.mup q1 (by omega) (by omega)⟩
    have e1 : pReq1 ld ep i = [(2, 99, ld, ep, i, 0)] := by rw [pReq1, if_neg (by omega)]
    rw [e1]
    exact q2 _ (2, 99, ld, ep, i, 0) (Fr.mup Fr.rf (by omega) (by omega)) ⟨s, en, dn, nu, a2, .ref (ca i), d, b, mup_self _ _ _, Or.inr ⟨i, hi, rfl⟩, w3.kept (fun x y1 y2 => mup_ne _ _ (by omega)), (fun z => by cases z), fun _ => ⟨hi, rfl⟩, (fun z => by cases z), (fun z => by cases z), (fun z => by cases z), (fun z => by cases z)⟩
theorem requestAll_loop {M : mm_M} {k p ld ep : Nat} {post : List pMsg} {gv td : Nat} {ar : Nat → Nat} (hD : DkP M ca cm k p gv td ar) (hP0 : PsP G M ca cm g E p post) (hA : CmA M ca cm g) (hg : gv = g) (hkp : p + 328 ≤ k) (hl : ld = 99 ∨ ld < 7) :
    ∀ (m n : Nat) (M1 : mm_M), m + n = gv - td → PsP G M1 ca cm g E p (pSend post (pReqs ld ep ar td n)) → Fr M M1 p 328 →
    RW l G Y_Desk_requestAll (rm 3) (mm_Z G (rm 3) (SnQ G M sz ca cm g E p (pSend post (pReqs ld ep ar td (gv - td))))) 0 0 5 [(0, .ref k), (1, .int (gI ld)), (2, .int (nI ep)), (3, .int (nI (td + n)))] [] M1 sz := by
  intro m
  induction m with
  | zero =>
    intro n M1 hn hP hF
    obtain ⟨cs, arr, an, h0, h1, h2, h3, b1, b2, b3, b4, b5, b6⟩ := hD.kept (M' := M1) (fun q y1 y2 => hF q (by omega))
    refine rw_iload_n d_Desk_requestAll_5 rfl ?_
    refine rw_aload_n d_Desk_requestAll_6 rfl (by first | exact mm_ref_r _ | exact mm_ref_n | exact mm_ref_o _) ?_
    refine rw_get d_Desk_requestAll_7 fF_Desk_29 h0 rfl ?_
    refine rw_icmp_ge_t (tgt := 46) d_Desk_requestAll_10 (by decide) (nI_le (by omega) (by omega)) ?_
    have : n = gv - td := by omega
    subst this
    exact rw_vret d_Desk_requestAll_46 rfl ⟨rfl, rfl, hP, hF⟩
  | succ m ih =>
    intro n M1 hn hP hF
    obtain ⟨cs, arr, an, h0, h1, h2, h3, b1, b2, b3, b4, b5, b6⟩ := hD.kept (M' := M1) (fun q y1 y2 => hF q (by omega))
    have hA1 := hA.post hP0 hF
    have hb := b5 ((td + n) % 8) (Nat.mod_lt _ (by omega))
    refine rw_iload_n d_Desk_requestAll_5 rfl ?_
    refine rw_aload_n d_Desk_requestAll_6 rfl (by first | exact mm_ref_r _ | exact mm_ref_n | exact mm_ref_o _) ?_
    refine rw_get d_Desk_requestAll_7 fF_Desk_29 h0 rfl ?_
    refine rw_icmp_ge_f (tgt := 46) d_Desk_requestAll_10 (by decide) (nI_ge (by omega) (by omega)) ?_
    refine rw_aload_n d_Desk_requestAll_13 rfl (by first | exact mm_ref_r _ | exact mm_ref_n | exact mm_ref_o _) ?_
    refine rw_get d_Desk_requestAll_14 fF_Desk_17 h0 rfl ?_
    refine rw_iload_n d_Desk_requestAll_17 rfl ?_
    refine rw_bipush (v := 8) d_Desk_requestAll_18 (by decide) ?_
    refine rw_irem d_Desk_requestAll_20 (by decide) ?_
    rw [nI_rem8 (by omega)]
    refine rw_zald d_Desk_requestAll_21 h2 (vp_in8 _) ?_
    rw [nI_c8, hb.1]
    have next : ∀ M2 : mm_M, PsP G M2 ca cm g E p (pSend post (pReqs ld ep ar td (n + 1))) → Fr M M2 p 328 → RW l G Y_Desk_requestAll (rm 3) (mm_Z G (rm 3) (SnQ G M sz ca cm g E p (pSend post (pReqs ld ep ar td (gv - td))))) 0 0 40 [(0, .ref k), (1, .int (gI ld)), (2, .int (nI ep)), (3, .int (nI (td + n)))] [] M2 sz := by
      intro M2 hP2 hF2
      refine rw_iinc d_Desk_requestAll_40 (by decide) rfl rfl rfl ?_
      refine rw_lv (lv' := [(0, .ref k), (1, .int (gI ld)), (2, .int (nI ep)), (3, .int (nI (td + (n + 1))))]) (by rw [← Nat.add_assoc, ← nI_1]; intro q hq; simp at hq; rcases hq with rfl | rfl | rfl | rfl <;> rfl) ?_
      refine rw_goto (tgt := 5) d_Desk_requestAll_43 (by decide) ?_
      exact ih (n + 1) M2 (by omega) hP2 hF2
    rcases (show ar ((td + n) % 8) = 0 ∨ ar ((td + n) % 8) = 1 by omega) with q | q
    · rw [q]
      refine rw_if_ne_f (tgt := 40) d_Desk_requestAll_22 (by decide) (by decide) ?_
      refine rw_aload_n d_Desk_requestAll_25 rfl (by first | exact mm_ref_r _ | exact mm_ref_n | exact mm_ref_o _) ?_
      refine rw_aload_n d_Desk_requestAll_26 rfl (by first | exact mm_ref_r _ | exact mm_ref_n | exact mm_ref_o _) ?_
      refine rw_get d_Desk_requestAll_27 fF_Desk_11 h0 rfl ?_
      refine rw_iload_n d_Desk_requestAll_30 rfl ?_
      refine rw_bipush (v := 8) d_Desk_requestAll_31 (by decide) ?_
      refine rw_irem d_Desk_requestAll_33 (by decide) ?_
      rw [nI_rem8 (by omega)]
      refine rw_aald d_Desk_requestAll_34 h1 (by decide) rfl (vp_in8 _) ?_
      rw [nI_c8, b4 (td + n) (by omega) (by omega)]
      refine rw_stk (st' := [.ref (ca (td + n)), .ref k]) rfl ?_
      refine rw_iload_n d_Desk_requestAll_35 rfl ?_
      refine rw_iload_n d_Desk_requestAll_36 rfl ?_
      refine rw_callV (kc := 0) (ks := 0) (rest := []) d_Desk_requestAll_37 (c_request (ld := ld) (ep := ep) (i := td + n) (hD.kept (M' := M1) (fun q y1 y2 => hF q (by omega))) hP (by omega) hA1 hl) mW_Desk_request mL_Desk_61 mI_Desk_request mE_Desk_request ⟨by decide, by decide⟩ h0 rfl rfl rfl rfl (Nat.le_of_ble_eq_true rfl) (fun r M2 sz2 hq => ?_)
      obtain ⟨rfl, rfl, q1, q2⟩ := hq
      refine rw_stk (st' := []) rfl ?_
      refine next M2 ?_ (hF.trans q2)
      rw [pSend_app] at q1
      rw [pReqs, if_neg (by omega)]
      exact q1
    · rw [q]
      refine rw_if_ne_t (tgt := 40) d_Desk_requestAll_22 (by decide) (by decide) ?_
      refine next M1 ?_ hF
      rw [pReqs, if_pos q, List.append_nil]
      exact hP
theorem c_requestAll {M : mm_M} {k p ld ep : Nat} {post : List pMsg} {gv td : Nat} {ar : Nat → Nat} (hD : DkP M ca cm k p gv td ar) (hP : PsP G M ca cm g E p post) (hA : CmA M ca cm g) (hg : gv = g) (hkp : p + 328 ≤ k) (hl : ld = 99 ∨ ld < 7) : CT l G Y_Desk_requestAll ds_Desk_requestAll (rm 3) [.ref k, .int (gI ld), .int (nI ep)] M sz (SnQ G M sz ca cm g E p (pSend post (pReqs ld ep ar td (gv - td)))) := by
  obtain ⟨cs, arr, an, h0, -⟩ := id hD
  refine CT.of (by decide) (Nat.le_of_ble_eq_true rfl) ?_
  refine rw_aload_n d_Desk_requestAll_0 rfl (by first | exact mm_ref_r _ | exact mm_ref_n | exact mm_ref_o _) ?_
  refine rw_get d_Desk_requestAll_1 fF_Desk_33 h0 rfl ?_
  refine rw_istore_n d_Desk_requestAll_4 (by decide) rfl ?_
  refine rw_lv (lv' := [(0, .ref k), (1, .int (gI ld)), (2, .int (nI ep)), (3, .int (nI (td + 0)))]) (by intro q hq; simp at hq; rcases hq with rfl | rfl | rfl | rfl <;> rfl) ?_
  exact requestAll_loop hD hP hA hg hkp hl (gv - td) 0 M (by omega) (by rw [pReqs, pSend_nil hP.len]; exact hP) Fr.rf
theorem c_dHear {M : mm_M} {k p q x : Nat} {gv td : Nat} {ar : Nat → Nat} {kv : Value} {f t e s en dn : Int32} {cv : Value} (hD : DkP M ca cm k p gv td ar) (hx : x < 1000000) (hm : M q = some (msO q kv f t e s en dn (nI x) (tAns cm x) cv)) : CT l G Y_Desk_hear ds_Desk_hear (rm 1) [.ref k, .ref q] M sz (fun r M' sz' => r = none ∧ sz' = sz ∧ DkP M' ca cm k p gv td (if td ≤ x ∧ x < gv then va_up ar (x % 8) 1 else ar) ∧ Fr M M' k 4) := by
  obtain ⟨cs, arr, an, h0, h1, h2, h3, b1, b2, b3, b4, b5, b6⟩ := id hD
  have hqk : q ≠ k + 3 := fun z => by rw [z, h3] at hm; cases hm
  refine CT.of (by decide) (Nat.le_of_ble_eq_true rfl) ?_
  refine rw_aload_n d_Desk_hear_0 rfl (by first | exact mm_ref_r _ | exact mm_ref_n | exact mm_ref_o _) ?_
  refine rw_get d_Desk_hear_1 fF_Desk_65 hm rfl ?_
  refine rw_istore_n d_Desk_hear_4 (by decide) rfl ?_
  refine rw_iload_n d_Desk_hear_5 rfl ?_
  refine rw_aload_n d_Desk_hear_6 rfl (by first | exact mm_ref_r _ | exact mm_ref_n | exact mm_ref_o _) ?_
  refine rw_get d_Desk_hear_7 fF_Desk_33 h0 rfl ?_
  by_cases c1 : td ≤ x
  · refine rw_icmp_lt_f (tgt := 41) d_Desk_hear_10 (by decide) (nI_nlt c1 (by omega)) ?_
    refine rw_iload_n d_Desk_hear_13 rfl ?_
    refine rw_aload_n d_Desk_hear_14 rfl (by first | exact mm_ref_r _ | exact mm_ref_n | exact mm_ref_o _) ?_
    refine rw_get d_Desk_hear_15 fF_Desk_29 h0 rfl ?_
    by_cases c2 : x < gv
    · refine rw_icmp_ge_f (tgt := 41) d_Desk_hear_18 (by decide) (nI_ge c2 (by omega)) ?_
      refine rw_aload_n d_Desk_hear_21 rfl (by first | exact mm_ref_r _ | exact mm_ref_n | exact mm_ref_o _) ?_
      refine rw_get d_Desk_hear_22 fF_Desk_21 h0 rfl ?_
      refine rw_iload_n d_Desk_hear_25 rfl ?_
      refine rw_aload_n d_Desk_hear_26 rfl (by first | exact mm_ref_r _ | exact mm_ref_n | exact mm_ref_o _) ?_
      refine rw_get d_Desk_hear_27 fF_Desk_68 hm rfl ?_
      refine rw_iast d_Desk_hear_30 h3 (vp_in_nI (by omega) (by omega)) ?_
      rw [nI_c (by omega)]
      refine rw_aload_n d_Desk_hear_31 rfl (by first | exact mm_ref_r _ | exact mm_ref_n | exact mm_ref_o _) ?_
      refine rw_get d_Desk_hear_32 fF_Desk_17 (mup_get (by omega) h0) rfl ?_
      refine rw_iload_n d_Desk_hear_35 rfl ?_
      refine rw_bipush (v := 8) d_Desk_hear_36 (by decide) ?_
      refine rw_irem d_Desk_hear_38 (by decide) ?_
      rw [nI_rem8 (by omega)]
      refine rw_iconst (v := 1) d_Desk_hear_39 (by decide) ?_
      refine rw_zast d_Desk_hear_40 (mup_get (by omega) h2) (vp_in8 _) (by first | rfl | assumption | decide) ?_
      rw [nI_c8]
      rw [if_pos ⟨c1, c2⟩]
      refine rw_vret d_Desk_hear_41 rfl ⟨rfl, rfl, ⟨cs, upd arr (x % 8) 1, upd an x (tAns cm x), ?_, ?_, mup_self _ _ _, (mup_ne _ _ (by omega)).trans (mup_self _ _ _), b1, b2, b3, b4, fun j hj => ?_, fun i i1 i2 => ?_⟩, Fr.mup (Fr.mup Fr.rf (by omega) (by omega)) (by omega) (by omega)⟩
      · rw [mup_ne _ _ (by omega), mup_ne _ _ (by omega)]
        exact h0
      · rw [mup_ne _ _ (by omega), mup_ne _ _ (by omega)]
        exact h1
      · by_cases z : j = x % 8
        · rw [z, va_up_self]
          simp [upd]
          rfl
        · rw [va_up_ne _ _ z]
          simp [upd, z, b5 j hj]
      · by_cases z : i = x
        · simp [upd, z]
        · simp only [upd, if_neg z]
          refine b6 i i1 ?_
          rcases i2 with i2 | i2
          · exact Or.inl i2
          · by_cases z2 : i % 8 = x % 8
            · left
              omega
            · rw [va_up_ne _ _ z2] at i2
              exact Or.inr i2
    · refine rw_icmp_ge_t (tgt := 41) d_Desk_hear_18 (by decide) (nI_le (by omega) (by omega)) ?_
      rw [if_neg (fun z => c2 z.2)]
      exact rw_vret d_Desk_hear_41 rfl ⟨rfl, rfl, hD, Fr.rf⟩
  · refine rw_icmp_lt_t (tgt := 41) d_Desk_hear_10 (by decide) (nI_lt (by omega) (by omega)) ?_
    rw [if_neg (fun z => c1 z.1)]
    exact rw_vret d_Desk_hear_41 rfl ⟨rfl, rfl, hD, Fr.rf⟩
def HaQ (M : mm_M) (sz gv td : Nat) (ar : Nat → Nat) : Option Value → mm_M → Nat → Prop := fun r M' sz' => (∃ c : Bool, r = some (.int (bI c)) ∧ (c = true ↔ ∀ i, td ≤ i → i < gv → ar (i % 8) = 1)) ∧ M' = M ∧ sz' = sz
theorem hasAll_loop {M : mm_M} {k p gv td : Nat} {ar : Nat → Nat} (hD : DkP M ca cm k p gv td ar) : ∀ (m n : Nat), m + n = gv - td → (∀ i, i < n → ar ((td + i) % 8) = 1) → RW l G Y_Desk_hasAllAnswers (rm 1) (mm_Z G (rm 1) (HaQ M sz gv td ar)) 0 0 5 [(0, .ref k), (1, .int (nI (td + n)))] [] M sz := by
  obtain ⟨cs, arr, an, h0, h1, h2, h3, b1, b2, b3, b4, b5, b6⟩ := id hD
  intro m
  induction m with
  | zero =>
    intro n hn hall
    refine rw_iload_n d_Desk_hasAllAnswers_5 rfl ?_
    refine rw_aload_n d_Desk_hasAllAnswers_6 rfl (by first | exact mm_ref_r _ | exact mm_ref_n | exact mm_ref_o _) ?_
    refine rw_get d_Desk_hasAllAnswers_7 fF_Desk_29 h0 rfl ?_
    refine rw_icmp_ge_t (tgt := 33) d_Desk_hasAllAnswers_10 (by decide) (nI_le (by omega) (by omega)) ?_
    refine rw_iconst (v := 1) d_Desk_hasAllAnswers_33 (by decide) ?_
    refine rw_zret d_Desk_hasAllAnswers_34 rfl rfl ⟨⟨true, rfl, fun _ i i1 i2 => ?_, fun _ => rfl⟩, rfl, rfl⟩
    have := hall (i - td) (by omega)
    rw [show td + (i - td) = i by omega] at this
    exact this
  | succ m ih =>
    intro n hn hall
    have hb := b5 ((td + n) % 8) (Nat.mod_lt _ (by omega))
    refine rw_iload_n d_Desk_hasAllAnswers_5 rfl ?_
    refine rw_aload_n d_Desk_hasAllAnswers_6 rfl (by first | exact mm_ref_r _ | exact mm_ref_n | exact mm_ref_o _) ?_
    refine rw_get d_Desk_hasAllAnswers_7 fF_Desk_29 h0 rfl ?_
    refine rw_icmp_ge_f (tgt := 33) d_Desk_hasAllAnswers_10 (by decide) (nI_ge (by omega) (by omega)) ?_
    refine rw_aload_n d_Desk_hasAllAnswers_13 rfl (by first | exact mm_ref_r _ | exact mm_ref_n | exact mm_ref_o _) ?_
    refine rw_get d_Desk_hasAllAnswers_14 fF_Desk_17 h0 rfl ?_
    refine rw_iload_n d_Desk_hasAllAnswers_17 rfl ?_
    refine rw_bipush (v := 8) d_Desk_hasAllAnswers_18 (by decide) ?_
    refine rw_irem d_Desk_hasAllAnswers_20 (by decide) ?_
    rw [nI_rem8 (by omega)]
    refine rw_zald d_Desk_hasAllAnswers_21 h2 (vp_in8 _) ?_
    rw [nI_c8, hb.1]
    rcases (show ar ((td + n) % 8) = 0 ∨ ar ((td + n) % 8) = 1 by omega) with q | q
    · rw [q]
      refine rw_if_ne_f (tgt := 27) d_Desk_hasAllAnswers_22 (by decide) (by decide) ?_
      refine rw_iconst (v := 0) d_Desk_hasAllAnswers_25 (by decide) ?_
      refine rw_zret d_Desk_hasAllAnswers_26 rfl rfl ⟨⟨false, rfl, (fun z => by cases z), fun z => ?_⟩, rfl, rfl⟩
      have := z (td + n) (by omega) (by omega)
      omega
    · rw [q]
      refine rw_if_ne_t (tgt := 27) d_Desk_hasAllAnswers_22 (by decide) (by decide) ?_
      refine rw_iinc d_Desk_hasAllAnswers_27 (by decide) rfl rfl rfl ?_
      refine rw_lv (lv' := [(0, .ref k), (1, .int (nI (td + (n + 1))))]) (by rw [← Nat.add_assoc, ← nI_1]; intro q hq; simp at hq; rcases hq with rfl | rfl <;> rfl) ?_
      refine rw_goto (tgt := 5) d_Desk_hasAllAnswers_30 (by decide) ?_
      refine ih (n + 1) (by omega) (fun i hi => ?_)
      by_cases z : i = n
      · rw [z]
        exact q
      · exact hall i (by omega)
theorem c_hasAll {M : mm_M} {k p gv td : Nat} {ar : Nat → Nat} (hD : DkP M ca cm k p gv td ar) : CT l G Y_Desk_hasAllAnswers ds_Desk_hasAllAnswers (rm 1) [.ref k] M sz (HaQ M sz gv td ar) := by
  obtain ⟨cs, arr, an, h0, -⟩ := id hD
  refine CT.of (by decide) (Nat.le_of_ble_eq_true rfl) ?_
  refine rw_aload_n d_Desk_hasAllAnswers_0 rfl (by first | exact mm_ref_r _ | exact mm_ref_n | exact mm_ref_o _) ?_
  refine rw_get d_Desk_hasAllAnswers_1 fF_Desk_33 h0 rfl ?_
  refine rw_istore_n d_Desk_hasAllAnswers_4 (by decide) rfl ?_
  refine rw_lv (lv' := [(0, .ref k), (1, .int (nI (td + 0)))]) (by intro q hq; simp at hq; rcases hq with rfl | rfl <;> rfl) ?_
  exact hasAll_loop hD (gv - td) 0 (by omega) (fun i hi => by omega)
theorem c_tell {M : mm_M} {k p gv td : Nat} {ar : Nat → Nat} (hD : DkP M ca cm k p gv td ar) (hall : ∀ i, td ≤ i → i < gv → ar (i % 8) = 1) : CT l G Y_Desk_tellAnswers ds_Desk_tellAnswers (rm 1) [.ref k] M sz (fun r M' sz' => r = none ∧ sz' = sz ∧ DkP M' ca cm k p gv gv ar ∧ ∀ q, q ≠ k → M' q = M q) := by
  obtain ⟨cs, arr, an, h0, h1, h2, h3, b1, b2, b3, b4, b5, b6⟩ := id hD
  refine CT.of (by decide) (Nat.le_of_ble_eq_true rfl) ?_
  refine rw_aload_n d_Desk_tellAnswers_0 rfl (by first | exact mm_ref_r _ | exact mm_ref_n | exact mm_ref_o _) ?_
  refine rw_aload_n d_Desk_tellAnswers_1 rfl (by first | exact mm_ref_r _ | exact mm_ref_n | exact mm_ref_o _) ?_
  refine rw_get d_Desk_tellAnswers_2 fF_Desk_29 h0 rfl ?_
  refine rw_put d_Desk_tellAnswers_5 (fP_Desk_33 _) h0 (Nat.le_of_ble_eq_true rfl) (by first | rfl | assumption | decide) (by first | rfl | decide) ?_
  refine rw_vret d_Desk_tellAnswers_8 rfl ⟨rfl, rfl, ⟨cs, arr, an, ?_, ?_, ?_, ?_, by omega, by omega, b3, fun i i1 i2 => by omega, b5, fun i i1 _ => b6 i i1 ?_⟩, fun q hq => mup_ne _ _ hq⟩
  · rw [mup_self]
    rfl
  · rw [mup_ne _ _ (by omega)]
    exact h1
  · rw [mup_ne _ _ (by omega)]
    exact h2
  · rw [mup_ne _ _ (by omega)]
    exact h3
  · rcases Nat.lt_or_ge i td with z | z
    · exact Or.inl z
    · exact Or.inr (hall i z i1)
end DESK
