/-! VersionGroup: passOneTick, tick, deliver, lose, twice, stir. -/
section TICK
variable {l : Launch} {G : mm_G} {sz : Nat} {ca : Nat → Nat} {cm : Nat → pCm} {g : Nat} {E : pE} {v : Nat} {J : pSt → Prop}
theorem pWn_succ (E : pE) (nd : Nat → pN) (k : Nat) : pWn E nd (k + 1) = va_up (pWn E nd k) k (pWork E k (nd k)).1 := by
  funext n
  by_cases z : n = k
  · subst z
    rw [va_up_self, pWn, if_pos (by omega)]
  · rw [va_up_ne _ _ z]
    unfold pWn
    by_cases w : n < k
    · rw [if_pos w, if_pos (by omega)]
    · rw [if_neg w, if_neg (by omega)]
set_option maxRecDepth 100000 in
theorem tick_loop {M : mm_M} {nd : Nat → pN} {post : List pMsg} {y : pN} (h30 : ∀ n, n < eN E → ∀ m, m < eN E → nd n (30 + m) < 1000000) : ∀ (m k : Nat) (M1 : mm_M), m + k = eN E → VgP G M1 ca cm g E v (pWn E nd k) (pSend post (pWk E nd k)) y → Fr M M1 v (vgN E) →
    RW l G Y_VG_passOneTick (rm 7) (mm_Z G (rm 7) (VgQ G M sz ca cm g E v (pWn E nd (eN E), pSend post (pWk E nd (eN E)), y))) 0 0 30 [(0, .ref v), (1, .int (nI k))] [] M1 sz := by
  intro m
  induction m with
  | zero =>
    intro k M1 hk h hF
    obtain ⟨h0, ⟨f, h1, h1b⟩, h2, -⟩ := id h
    have hN7 := h2.2.2.2.2.1
    have : k = eN E := by omega
    rw [this] at h ⊢
    refine rw_iload_n d_VG_passOneTick_30 rfl ?_
    refine rw_aload_n d_VG_passOneTick_31 rfl (by first | exact mm_ref_r _ | exact mm_ref_n | exact mm_ref_o _) ?_
    refine rw_get d_VG_passOneTick_32 fF_VG_54 h0 rfl ?_
    refine rw_alen d_VG_passOneTick_35 h1 (by decide) rfl ?_
    refine rw_icmp_ge_t (tgt := 54) d_VG_passOneTick_36 (by decide) (nI_le (a := eN E) (b := eN E) (by omega) (by omega)) ?_
    exact rw_vret d_VG_passOneTick_54 rfl ⟨rfl, rfl, h, hF⟩
  | succ m ih =>
    intro k M1 hk h hF
    obtain ⟨h0, ⟨f, h1, h1b⟩, h2, h3, h4, h5, h6, h7⟩ := id h
    have hN7 := h2.2.2.2.2.1
    have hkN : k < eN E := by omega
    have hNk := h6 k hkN
    have e0 : pWn E nd k k = nd k := by rw [pWn, if_neg (by omega)]
    rw [e0] at hNk
    refine rw_iload_n d_VG_passOneTick_30 rfl ?_
    refine rw_aload_n d_VG_passOneTick_31 rfl (by first | exact mm_ref_r _ | exact mm_ref_n | exact mm_ref_o _) ?_
    refine rw_get d_VG_passOneTick_32 fF_VG_54 h0 rfl ?_
    refine rw_alen d_VG_passOneTick_35 h1 (by decide) rfl ?_
    refine rw_icmp_ge_f (tgt := 54) d_VG_passOneTick_36 (by decide) (nI_ge (a := k) (b := eN E) hkN (by omega)) ?_
    refine rw_aload_n d_VG_passOneTick_39 rfl (by first | exact mm_ref_r _ | exact mm_ref_n | exact mm_ref_o _) ?_
    refine rw_get d_VG_passOneTick_40 fF_VG_54 h0 rfl ?_
    refine rw_iload_n d_VG_passOneTick_43 rfl ?_
    refine rw_aald d_VG_passOneTick_44 h1 (by decide) rfl (vp_in_nI hkN (by omega)) ?_
    rw [nI_c (by omega), h1b k hkN]
    refine rw_stk (st' := [.ref (v + 337 + 15 * k)]) rfl ?_
    refine rw_callV (kc := 0) (ks := 0) (rest := []) d_VG_passOneTick_45 (c_work hNk h2 (by omega) hkN (h30 k hkN)) mW_Node_work mL_VG_177 mI_Node_work mE_Node_work ⟨by decide, by decide⟩ hNk.1 rfl rfl rfl rfl (Nat.le_of_ble_eq_true rfl) (fun r M2 sz2 hq => ?_)
    obtain ⟨rfl, rfl, q1, q2, q3⟩ := hq
    refine rw_stk (st' := []) rfl ?_
    refine rw_iinc d_VG_passOneTick_48 (by decide) rfl rfl rfl ?_
    refine rw_lv (lv' := [(0, .ref v), (1, .int (nI (k + 1)))]) (by rw [← nI_1]; intro q hq; simp at hq; rcases hq with rfl | rfl <;> rfl) ?_
    refine rw_goto (tgt := 30) d_VG_passOneTick_51 (by decide) ?_
    refine ih (k + 1) M2 (by omega) ?_ (hF.trans (Fr2.vg hkN q3))
    have := h.node hkN q1 q2 q3
    rw [pSend_app] at this
    rw [pWn_succ]
    exact this
set_option maxRecDepth 100000 in
theorem c_passOneTick {M : mm_M} {s : pSt} (h : VgP G M ca cm g E v s.1 s.2.1 s.2.2) (h30 : ∀ n, n < eN E → ∀ m, m < eN E → s.1 n (30 + m) < 1000000) : CT l G Y_VG_passOneTick ds_VG_passOneTick (rm 7) [.ref v] M sz (VgQ G M sz ca cm g E v (pTick E s)) := by
  obtain ⟨h0, ⟨f, h1, h1b⟩, h2, h3, h4, h5, h6, h7, h8, -⟩ := id h
  obtain ⟨fk, k0, k1, k2⟩ := id h3
  have hN7 := h2.2.2.2.2.1
  refine CT.of (by decide) (Nat.le_of_ble_eq_true rfl) ?_
  refine rw_aload_n d_VG_passOneTick_0 rfl (by first | exact mm_ref_r _ | exact mm_ref_n | exact mm_ref_o _) ?_
  refine rw_get d_VG_passOneTick_1 fF_VG_35 h0 rfl ?_
  refine rw_callV (kc := 0) (ks := 0) (rest := []) d_VG_passOneTick_4 (c_proclaim hN7 h7 h8 h2.2.2.1 (by omega) (by omega) h3 h2.1) mW_MapKeeper_proclaim mL_VG_115 mI_MapKeeper_proclaim mE_MapKeeper_proclaim ⟨by decide, by decide⟩ k0 rfl rfl rfl rfl (Nat.le_of_ble_eq_true rfl) (fun r M1 sz1 hq => ?_)
  obtain ⟨rfl, rfl, q1, q2⟩ := hq
  have g1 := h.sent q1 q2
  obtain ⟨cs, arr, an, d0, -⟩ := id g1.2.2.2.2.1
  refine rw_stk (st' := []) rfl ?_
  refine rw_aload_n d_VG_passOneTick_7 rfl (by first | exact mm_ref_r _ | exact mm_ref_n | exact mm_ref_o _) ?_
  refine rw_get d_VG_passOneTick_8 fF_VG_44 g1.1 rfl ?_
  refine rw_aload_n d_VG_passOneTick_11 rfl (by first | exact mm_ref_r _ | exact mm_ref_n | exact mm_ref_o _) ?_
  refine rw_get d_VG_passOneTick_12 fF_VG_35 g1.1 rfl ?_
  refine rw_get d_VG_passOneTick_15 fF_VG_76 ((q2 _ (by omega)).trans k0) rfl ?_
  refine rw_aload_n d_VG_passOneTick_18 rfl (by first | exact mm_ref_r _ | exact mm_ref_n | exact mm_ref_o _) ?_
  refine rw_get d_VG_passOneTick_19 fF_VG_35 g1.1 rfl ?_
  refine rw_get d_VG_passOneTick_22 fF_VG_79 ((q2 _ (by omega)).trans k0) rfl ?_
  have hl : eL E (s.2.2 0) = 99 ∨ eL E (s.2.2 0) < 7 := (eL_lt E _ hN7).imp id (fun z => by omega)
  refine rw_callV (kc := 0) (ks := 0) (rest := []) d_VG_passOneTick_25 (c_requestAll (ld := eL E (s.2.2 0)) (ep := s.2.2 0) g1.2.2.2.2.1 g1.2.2.1.1 g1.2.2.1.2.1 h5 (by omega) hl) mW_Desk_requestAll mL_VG_174 mI_Desk_requestAll mE_Desk_requestAll ⟨by decide, by decide⟩ d0 rfl rfl rfl rfl (Nat.le_of_ble_eq_true rfl) (fun r M2 sz2 hq => ?_)
  obtain ⟨rfl, rfl, q3, q4⟩ := hq
  have g2 := g1.sent q3 q4
  refine rw_stk (st' := []) rfl ?_
  refine rw_iconst (v := 0) d_VG_passOneTick_28 (by decide) ?_
  refine rw_istore_n d_VG_passOneTick_29 (by decide) rfl ?_
  refine rw_lv (lv' := [(0, .ref v), (1, .int (nI 0))]) (by intro q hq; simp at hq; rcases hq with rfl | rfl <;> rfl) ?_
  have e0 : pWn E s.1 0 = s.1 := by
    funext n
    rw [pWn, if_neg (by omega)]
  exact tick_loop h30 (eN E) 0 M2 (by omega) (by rw [e0, show pWk E s.1 0 = [] from rfl, pSend_nil g2.len]; exact g2) ((Fr.vg q2).trans (Fr.vg q4))
theorem VgP.calm {M : mm_M} {nd : Nat → pN} {post : List pMsg} {y : pN} {c : Nat} {e : va_E} (h : VgP G M ca cm g E v nd post y) (hc : c ≤ 1) (he : e = vgO v (pu y 3 c)) : VgP G (mup M v e) ca cm g E v nd post (pu y 3 c) := by
  obtain ⟨h0, ⟨f, h1, h1b⟩, h2, h3, h4, h5, h6, h7, h8, h9, h10⟩ := h
  have hne : ∀ i, i < g → ca i ≠ v := fun i hi q => by
    have e := (h2.2.1 i hi).2
    rw [q, h0] at e
    cases e
  have ey : ∀ z, z ≠ 3 → pu y 3 c z = y z := fun z hz => pu_ne _ _ hz
  refine ⟨by rw [mup_self, he], ⟨f, (mup_ne _ _ (by omega)).trans h1, h1b⟩, ⟨h2.1.kept (fun q y1 y2 => mup_ne _ _ (by omega)), h2.2.1.kept (fun i hi => mup_ne _ _ (hne i hi)), (mup_ne _ _ (by omega)).trans h2.2.2.1, h2.2.2.2⟩, ?_, ?_, ?_, fun n hn => (h6 n hn).kept (fun q y1 y2 => mup_ne _ _ (by omega)), ?_, fun n hn => ?_, ?_, h10⟩
  · rw [ey 0 (by omega)]
    exact (h3.kept (fun q y1 y2 => mup_ne _ _ (by omega))).ext (fun m hm => ey _ (by omega))
  · rw [ey 1 (by omega), ey 2 (by omega)]
    exact (h4.kept (fun q y1 y2 => mup_ne _ _ (by omega))).ext (fun m hm => ey _ (by omega))
  · rw [ey 1 (by omega)]
    exact h5
  · rw [ey 0 (by omega)]
    exact h7
  · rw [ey _ (by omega)]
    exact h8 n hn
  · rw [pu_self]
    exact hc
theorem fr_at0 {M : mm_M} {e : va_E} : Fr M (mup M v e) v (vgN E) := fun q hq => mup_ne _ _ (by simp only [vgN] at hq; omega)
set_option maxRecDepth 100000 in
theorem c_deliver {M : mm_M} {s : pSt} {k : Int32} (hJ : Jc E J) (hs : J (s.1, s.2.1, pu s.2.2 3 0)) (h : VgP G M ca cm g E v s.1 s.2.1 s.2.2) : CT l G Y_VG_deliver ds_VG_deliver (rm 8) [.ref v, .int k] M sz (VjQ G M sz ca cm g E v J) := by
  have g1 : VgP G (mup M v (.inr (10, [.ref (v + 2), .ref (v + 330), .ref (v + 332), .ref (v + 336), .int 0]))) ca cm g E v s.1 s.2.1 (pu s.2.2 3 0) := h.calm (c := 0) (by omega) rfl
  refine CT.of (by decide) (Nat.le_of_ble_eq_true rfl) ?_
  refine rw_aload_n d_VG_deliver_0 rfl (by first | exact mm_ref_r _ | exact mm_ref_n | exact mm_ref_o _) ?_
  refine rw_iconst (v := 0) d_VG_deliver_1 (by decide) ?_
  refine rw_put d_VG_deliver_2 (fP_VG_68 _) h.1 (Nat.le_of_ble_eq_true rfl) (by first | rfl | assumption | decide) (by first | rfl | assumption | decide) ?_
  refine rw_aload_n d_VG_deliver_5 rfl (by first | exact mm_ref_r _ | exact mm_ref_n | exact mm_ref_o _) ?_
  refine rw_iload_n d_VG_deliver_6 rfl ?_
  refine rw_iconst (v := 1) d_VG_deliver_7 (by decide) ?_
  refine rw_callV (kc := 0) (ks := 0) (rest := []) d_VG_deliver_8 (c_bring (k := k) (t := 1) (s := (s.1, s.2.1, pu s.2.2 3 0)) hJ (by omega) hs g1) mW_VG_bring mL_VG_91 mI_VG_bring mE_VG_bring ⟨by decide, by decide⟩ (mup_self _ _ _) rfl rfl rfl rfl (Nat.le_of_ble_eq_true rfl) (fun r M1 sz1 hq => ?_)
  obtain ⟨rfl, rfl, q1, q2⟩ := hq
  refine rw_stk (st' := []) rfl ?_
  exact rw_vret d_VG_deliver_11 rfl ⟨rfl, rfl, q1, (fr_at0 (E := E)).trans q2⟩
set_option maxRecDepth 100000 in
theorem c_twice {M : mm_M} {s : pSt} {k : Int32} (hJ : Jc E J) (hs : J (s.1, s.2.1, pu s.2.2 3 0)) (h : VgP G M ca cm g E v s.1 s.2.1 s.2.2) : CT l G Y_VG_twice ds_VG_twice (rm 8) [.ref v, .int k] M sz (VjQ G M sz ca cm g E v J) := by
  have g1 : VgP G (mup M v (.inr (10, [.ref (v + 2), .ref (v + 330), .ref (v + 332), .ref (v + 336), .int 0]))) ca cm g E v s.1 s.2.1 (pu s.2.2 3 0) := h.calm (c := 0) (by omega) rfl
  refine CT.of (by decide) (Nat.le_of_ble_eq_true rfl) ?_
  refine rw_aload_n d_VG_twice_0 rfl (by first | exact mm_ref_r _ | exact mm_ref_n | exact mm_ref_o _) ?_
  refine rw_iconst (v := 0) d_VG_twice_1 (by decide) ?_
  refine rw_put d_VG_twice_2 (fP_VG_68 _) h.1 (Nat.le_of_ble_eq_true rfl) (by first | rfl | assumption | decide) (by first | rfl | assumption | decide) ?_
  refine rw_aload_n d_VG_twice_5 rfl (by first | exact mm_ref_r _ | exact mm_ref_n | exact mm_ref_o _) ?_
  refine rw_iload_n d_VG_twice_6 rfl ?_
  refine rw_iconst (v := 2) d_VG_twice_7 (by decide) ?_
  refine rw_callV (kc := 0) (ks := 0) (rest := []) d_VG_twice_8 (c_bring (k := k) (t := 2) (s := (s.1, s.2.1, pu s.2.2 3 0)) hJ (by omega) hs g1) mW_VG_bring mL_VG_91 mI_VG_bring mE_VG_bring ⟨by decide, by decide⟩ (mup_self _ _ _) rfl rfl rfl rfl (Nat.le_of_ble_eq_true rfl) (fun r M1 sz1 hq => ?_)
  obtain ⟨rfl, rfl, q1, q2⟩ := hq
  refine rw_stk (st' := []) rfl ?_
  exact rw_vret d_VG_twice_11 rfl ⟨rfl, rfl, q1, (fr_at0 (E := E)).trans q2⟩
set_option maxRecDepth 100000 in
theorem c_lose {M : mm_M} {s : pSt} {k : Int32} (hJ : Jc E J) (hs : J (s.1, s.2.1, pu s.2.2 3 0)) (h : VgP G M ca cm g E v s.1 s.2.1 s.2.2) : CT l G Y_VG_lose ds_VG_lose (rm 8) [.ref v, .int k] M sz (VjQ G M sz ca cm g E v J) := by
  have g1 : VgP G (mup M v (.inr (10, [.ref (v + 2), .ref (v + 330), .ref (v + 332), .ref (v + 336), .int 0]))) ca cm g E v s.1 s.2.1 (pu s.2.2 3 0) := h.calm (c := 0) (by omega) rfl
  refine CT.of (by decide) (Nat.le_of_ble_eq_true rfl) ?_
  refine rw_aload_n d_VG_lose_0 rfl (by first | exact mm_ref_r _ | exact mm_ref_n | exact mm_ref_o _) ?_
  refine rw_iconst (v := 0) d_VG_lose_1 (by decide) ?_
  refine rw_put d_VG_lose_2 (fP_VG_68 _) h.1 (Nat.le_of_ble_eq_true rfl) (by first | rfl | assumption | decide) (by first | rfl | assumption | decide) ?_
  refine rw_aload_n d_VG_lose_5 rfl (by first | exact mm_ref_r _ | exact mm_ref_n | exact mm_ref_o _) ?_
  refine rw_iload_n d_VG_lose_6 rfl ?_
  refine rw_callV (kc := 0) (ks := 0) (rest := []) d_VG_lose_7 (c_drop (k := k) (s := (s.1, s.2.1, pu s.2.2 3 0)) hJ hs g1) mW_VG_drop mL_VG_94 mI_VG_drop mE_VG_drop ⟨by decide, by decide⟩ (mup_self _ _ _) rfl rfl rfl rfl (Nat.le_of_ble_eq_true rfl) (fun r M1 sz1 hq => ?_)
  obtain ⟨rfl, rfl, q1, q2⟩ := hq
  refine rw_stk (st' := []) rfl ?_
  exact rw_vret d_VG_lose_10 rfl ⟨rfl, rfl, q1, (fr_at0 (E := E)).trans q2⟩
end TICK
