/-! VersionGroup: crash, restart, map. -/
section CRASH
variable {l : Launch} {G : mm_G} {sz : Nat} {ca : Nat → Nat} {cm : Nat → pCm} {g : Nat} {E : pE} {v : Nat} {nd : Nat → pN} {post : List pMsg} {y : pN}
/-- node j goes to x', or nothing is done -/
def CrQ (G : mm_G) (M : mm_M) (sz : Nat) (ca : Nat → Nat) (cm : Nat → pCm) (g : Nat) (E : pE) (v : Nat) (nd : Nat → pN) (post : List pMsg) (y : pN) (k : Int32) (b : Nat) (x' : Nat → pN) : Option Value → mm_M → Nat → Prop := fun r M' sz' => sz' = sz ∧ ((∃ j, j < eN E ∧ k = nI j ∧ nd j 0 = b ∧ r = some (.int 1) ∧ VgP G M' ca cm g E v (va_up nd j (x' j)) post (pu y 3 0) ∧ Fr M M' v (vgN E)) ∨ ((∀ j, j < eN E → k = nI j → nd j 0 ≠ b) ∧ r = some (.int 0) ∧ M' = M))
set_option maxRecDepth 100000 in
theorem c_crash {M : mm_M} {k : Int32} {kept : Bool} (h : VgP G M ca cm g E v nd post y) : CT l G Y_VG_crash ds_VG_crash (rm 6) [.ref v, .int k, .int (bI kept)] M sz (CrQ G M sz ca cm g E v nd post y k 1 (fun j => pFail kept (nd j))) := by
  have g1 : VgP G (mup M v (.inr (10, [.ref (v + 2), .ref (v + 330), .ref (v + 332), .ref (v + 336), .int 0]))) ca cm g E v nd post (pu y 3 0) := h.calm (c := 0) (by omega) rfl
  obtain ⟨h0, ⟨f, h1, h1b⟩, h2, h3, h4, h5, h6, -⟩ := id h
  have hN7 := h2.2.2.2.2.1
  refine CT.of (by decide) (Nat.le_of_ble_eq_true rfl) ?_
  refine rw_aload_n d_VG_crash_0 rfl (by first | exact mm_ref_r _ | exact mm_ref_n | exact mm_ref_o _) ?_
  refine rw_iload_n d_VG_crash_1 rfl ?_
  refine rw_callV (kc := 0) (ks := 0) (rest := []) d_VG_crash_2 (c_isNode (k := k) h) mW_VG_isNode mL_VG_102 mI_VG_isNode mE_VG_isNode ⟨by decide, by decide⟩ h0 rfl rfl rfl rfl (Nat.le_of_ble_eq_true rfl) (fun r M1 sz1 hq => ?_)
  obtain ⟨⟨c, rfl, hc⟩, rfl, rfl⟩ := hq
  refine rw_stk (st' := [.int (bI c)]) rfl ?_
  cases c with
  | false =>
    refine rw_if_eq_t (tgt := 20) d_VG_crash_5 (by decide) (rfl) ?_
    refine rw_iconst (v := 0) d_VG_crash_20 (by decide) ?_
    exact rw_zret d_VG_crash_21 rfl rfl ⟨rfl, Or.inr ⟨fun j hj e => absurd (hc.mpr ⟨j, hj, e⟩) (by decide), rfl, rfl⟩⟩
  | true =>
    obtain ⟨j, hj, rfl⟩ := hc.mp rfl
    have hNj := h6 j hj
    have b0 := hNj.2.2.2.2.2 0 (by omega)
    have hij := vp_in_nI hj (show eN E < 2147483648 by omega)
    refine rw_if_eq_f (tgt := 20) d_VG_crash_5 (by decide) (by decide) ?_
    refine rw_aload_n d_VG_crash_8 rfl (by first | exact mm_ref_r _ | exact mm_ref_n | exact mm_ref_o _) ?_
    refine rw_get d_VG_crash_9 fF_VG_54 h0 rfl ?_
    refine rw_iload_n d_VG_crash_12 rfl ?_
    refine rw_aald d_VG_crash_13 h1 (by decide) rfl hij ?_
    rw [nI_c (by omega), h1b j hj]
    refine rw_stk (st' := [.ref (v + 337 + 15 * j)]) rfl ?_
    refine rw_get d_VG_crash_14 fF_VG_105 hNj.1 rfl ?_
    rcases (show nd j 0 = 0 ∨ nd j 0 = 1 by omega) with c0 | c0
    · rw [c0]
      refine rw_if_ne_f (tgt := 22) d_VG_crash_17 (by decide) (by decide) ?_
      refine rw_iconst (v := 0) d_VG_crash_20 (by decide) ?_
      refine rw_zret d_VG_crash_21 rfl rfl ⟨rfl, Or.inr ⟨fun i hi e => ?_, rfl, rfl⟩⟩
      rw [nI_eq (by omega) (by omega)] at e
      subst e
      omega
    · rw [c0]
      refine rw_if_ne_t (tgt := 22) d_VG_crash_17 (by decide) (by decide) ?_
      refine rw_aload_n d_VG_crash_22 rfl (by first | exact mm_ref_r _ | exact mm_ref_n | exact mm_ref_o _) ?_
      refine rw_iconst (v := 0) d_VG_crash_23 (by decide) ?_
      refine rw_put d_VG_crash_24 (fP_VG_68 _) h0 (Nat.le_of_ble_eq_true rfl) (by first | rfl | assumption | decide) (by first | rfl | assumption | decide) ?_
      obtain ⟨k0, ⟨fk, k1, k1b⟩, k2, -, -, -, k6, -⟩ := id g1
      refine rw_aload_n d_VG_crash_27 rfl (by first | exact mm_ref_r _ | exact mm_ref_n | exact mm_ref_o _) ?_
      refine rw_get d_VG_crash_28 fF_VG_54 k0 rfl ?_
      refine rw_iload_n d_VG_crash_31 rfl ?_
      refine rw_aald d_VG_crash_32 k1 (by decide) rfl hij ?_
      rw [nI_c (by omega), k1b j hj]
      refine rw_stk (st' := [.ref (v + 337 + 15 * j)]) rfl ?_
      refine rw_iload_n d_VG_crash_33 rfl ?_
      refine rw_callV (kc := 0) (ks := 0) (rest := []) d_VG_crash_34 (c_fail (kept := kept) (k6 j hj) k2 (by omega)) mW_Node_fail mL_VG_108 mI_Node_fail mE_Node_fail ⟨by decide, by decide⟩ (k6 j hj).1 rfl rfl rfl rfl (Nat.le_of_ble_eq_true rfl) (fun r M2 sz2 hq => ?_)
      obtain ⟨rfl, rfl, q1, q2, q3⟩ := hq
      refine rw_stk (st' := []) rfl ?_
      refine rw_iconst (v := 1) d_VG_crash_37 (by decide) ?_
      exact rw_zret d_VG_crash_38 rfl rfl ⟨rfl, Or.inl ⟨j, hj, rfl, c0, rfl, g1.node hj q1 q2 q3, (fr_at0 (E := E)).trans (Fr2.vg hj q3)⟩⟩
set_option maxRecDepth 100000 in
theorem c_restart {M : mm_M} {k : Int32} (h : VgP G M ca cm g E v nd post y) : CT l G Y_VG_restart ds_VG_restart (rm 6) [.ref v, .int k] M sz (CrQ G M sz ca cm g E v nd post y k 0 (fun j => pu (nd j) 0 1)) := by
  have g1 : VgP G (mup M v (.inr (10, [.ref (v + 2), .ref (v + 330), .ref (v + 332), .ref (v + 336), .int 0]))) ca cm g E v nd post (pu y 3 0) := h.calm (c := 0) (by omega) rfl
  obtain ⟨h0, ⟨f, h1, h1b⟩, h2, h3, h4, h5, h6, -⟩ := id h
  have hN7 := h2.2.2.2.2.1
  refine CT.of (by decide) (Nat.le_of_ble_eq_true rfl) ?_
  refine rw_aload_n d_VG_restart_0 rfl (by first | exact mm_ref_r _ | exact mm_ref_n | exact mm_ref_o _) ?_
  refine rw_iload_n d_VG_restart_1 rfl ?_
  refine rw_callV (kc := 0) (ks := 0) (rest := []) d_VG_restart_2 (c_isNode (k := k) h) mW_VG_isNode mL_VG_102 mI_VG_isNode mE_VG_isNode ⟨by decide, by decide⟩ h0 rfl rfl rfl rfl (Nat.le_of_ble_eq_true rfl) (fun r M1 sz1 hq => ?_)
  obtain ⟨⟨c, rfl, hc⟩, rfl, rfl⟩ := hq
  refine rw_stk (st' := [.int (bI c)]) rfl ?_
  cases c with
  | false =>
    refine rw_if_eq_t (tgt := 20) d_VG_restart_5 (by decide) (rfl) ?_
    refine rw_iconst (v := 0) d_VG_restart_20 (by decide) ?_
    exact rw_zret d_VG_restart_21 rfl rfl ⟨rfl, Or.inr ⟨fun j hj e => absurd (hc.mpr ⟨j, hj, e⟩) (by decide), rfl, rfl⟩⟩
  | true =>
    obtain ⟨j, hj, rfl⟩ := hc.mp rfl
    have hNj := h6 j hj
    have b0 := hNj.2.2.2.2.2 0 (by omega)
    have hij := vp_in_nI hj (show eN E < 2147483648 by omega)
    refine rw_if_eq_f (tgt := 20) d_VG_restart_5 (by decide) (by decide) ?_
    refine rw_aload_n d_VG_restart_8 rfl (by first | exact mm_ref_r _ | exact mm_ref_n | exact mm_ref_o _) ?_
    refine rw_get d_VG_restart_9 fF_VG_54 h0 rfl ?_
    refine rw_iload_n d_VG_restart_12 rfl ?_
    refine rw_aald d_VG_restart_13 h1 (by decide) rfl hij ?_
    rw [nI_c (by omega), h1b j hj]
    refine rw_stk (st' := [.ref (v + 337 + 15 * j)]) rfl ?_
    refine rw_get d_VG_restart_14 fF_VG_105 hNj.1 rfl ?_
    rcases (show nd j 0 = 0 ∨ nd j 0 = 1 by omega) with c0 | c0
    · rw [c0]
      refine rw_if_eq_t (tgt := 22) d_VG_restart_17 (by decide) (rfl) ?_
      refine rw_aload_n d_VG_restart_22 rfl (by first | exact mm_ref_r _ | exact mm_ref_n | exact mm_ref_o _) ?_
      refine rw_iconst (v := 0) d_VG_restart_23 (by decide) ?_
      refine rw_put d_VG_restart_24 (fP_VG_68 _) h0 (Nat.le_of_ble_eq_true rfl) (by first | rfl | assumption | decide) (by first | rfl | assumption | decide) ?_
      obtain ⟨k0, ⟨fk, k1, k1b⟩, k2, -, -, -, k6, -⟩ := id g1
      refine rw_aload_n d_VG_restart_27 rfl (by first | exact mm_ref_r _ | exact mm_ref_n | exact mm_ref_o _) ?_
      refine rw_get d_VG_restart_28 fF_VG_54 k0 rfl ?_
      refine rw_iload_n d_VG_restart_31 rfl ?_
      refine rw_aald d_VG_restart_32 k1 (by decide) rfl hij ?_
      rw [nI_c (by omega), k1b j hj]
      refine rw_stk (st' := [.ref (v + 337 + 15 * j)]) rfl ?_
      refine rw_iconst (v := 1) d_VG_restart_33 (by decide) ?_
      refine rw_put d_VG_restart_34 (fP_VG_105 _) (k6 j hj).1 (Nat.le_of_ble_eq_true rfl) (by first | rfl | assumption | decide) (by first | rfl | assumption | decide) ?_
      refine rw_iconst (v := 1) d_VG_restart_37 (by decide) ?_
      have hNn := (k6 j hj).flag (f := 0) (v := 1) (e := .inr (9, [.int (nI j), .ref (v + 1), .ref (v + 2), .ref (v + 337 + 15 * j + 1), .ref (v + 337 + 15 * j + 6), .ref (v + 337 + 15 * j + 11), .int 1, .int (nI (nd j 1)), .int (nI (nd j 2)), .int (nI (nd j 3))])) (by omega) (by omega) rfl
      have hF4 : ∀ M2 : mm_M, ∀ e1, Fr M2 (mup M2 (v + 337 + 15 * j) e1) (v + 337 + 15 * j) 15 := fun M2 e1 => Fr.mup Fr.rf (by omega) (by omega)
      exact rw_zret d_VG_restart_38 rfl rfl ⟨rfl, Or.inl ⟨j, hj, rfl, c0, rfl, g1.node hj hNn (k2.node (k6 j hj) (by omega) (hF4 _ _)) (Fr2.of1 (hF4 _ _)), (fr_at0 (E := E)).trans (Fr2.vg hj (Fr2.of1 (hF4 _ _)))⟩⟩
    · rw [c0]
      refine rw_if_eq_f (tgt := 22) d_VG_restart_17 (by decide) (by decide) ?_
      refine rw_iconst (v := 0) d_VG_restart_20 (by decide) ?_
      refine rw_zret d_VG_restart_21 rfl rfl ⟨rfl, Or.inr ⟨fun i hi e => ?_, rfl, rfl⟩⟩
      rw [nI_eq (by omega) (by omega)] at e
      subst e
      omega
/-- a new epoch -/
theorem VgP.renew {M M' : mm_M} (h : VgP G M ca cm g E v nd post y) (hK : KpP M' E (v + 330) (v + 1) (v + 2) (y 0 + 1) (fun n => y (20 + n))) (hq : ∀ x, x ≠ v + 330 → M' x = M x) (he : y 0 + 1 < 1000000) : VgP G M' ca cm g E v nd post (pu y 0 (y 0 + 1)) := by
  obtain ⟨h0, ⟨f, h1, h1b⟩, h2, h3, h4, h5, h6, h7, h8, h9, h10⟩ := h
  have ey : ∀ z, z ≠ 0 → pu y 0 (y 0 + 1) z = y z := fun z hz => pu_ne _ _ hz
  have hF : Fr M M' (v + 330) 2 := fun q hqq => hq q (by omega)
  refine ⟨?_, ⟨f, (hq _ (by omega)).trans h1, h1b⟩, h2.out (by omega) (fun i hi => h3.apart h2.2.1 hi) hF, ?_, ?_, ?_, fun n hn => (h6 n hn).kept (fun q y1 y2 => hq q (by omega)), ?_, fun n hn => ?_, ?_, h10⟩
  · rw [hq _ (by omega), h0]
    simp only [vgO]
    rw [ey 3 (by omega)]
  · rw [pu_self]
    exact hK.ext (fun n hn => ey _ (by omega))
  · rw [ey 1 (by omega), ey 2 (by omega)]
    exact (h4.kept (fun q y1 y2 => hq q (by omega))).ext (fun m hm => ey _ (by omega))
  · rw [ey 1 (by omega)]
    exact h5
  · rw [pu_self]
    exact he
  · rw [ey _ (by omega)]
    exact h8 n hn
  · rw [ey 3 (by omega)]
    exact h9
set_option maxRecDepth 100000 in
theorem c_map {M : mm_M} {w : Int32} (h : VgP G M ca cm g E v nd post y) (he : y 0 + 1 < 1000000) (hw : w &&& nI (2 ^ eN E - 1) = nI (E.2.2 (y 0 + 1))) : CT l G Y_VG_map ds_VG_map (rm 6) [.ref v, .int w] M sz (fun r M' sz' => r = some (.int (nI (y 0 + 1))) ∧ sz' = sz ∧ VgP G M' ca cm g E v nd (pSend post (pProc (y 0 + 1) (fun n => y (20 + n)) (eN E))) (pu (pu y 3 0) 0 (y 0 + 1)) ∧ Fr M M' v (vgN E)) := by
  have g1 : VgP G (mup M v (.inr (10, [.ref (v + 2), .ref (v + 330), .ref (v + 332), .ref (v + 336), .int 0]))) ca cm g E v nd post (pu y 3 0) := h.calm (c := 0) (by omega) rfl
  have h2 := h.2.2.1
  obtain ⟨-, -, hpl, hlt, hN7, hCN, hC3, hg, hM64, hE64⟩ := id g1.2.2.1
  have h3 := g1.2.2.2.1
  obtain ⟨fk, k0, k1, k2⟩ := id h3
  have h8 := g1.2.2.2.2.2.2.2.2.1
  refine CT.of (by decide) (Nat.le_of_ble_eq_true rfl) ?_
  refine rw_aload_n d_VG_map_0 rfl (by first | exact mm_ref_r _ | exact mm_ref_n | exact mm_ref_o _) ?_
  refine rw_iconst (v := 0) d_VG_map_1 (by decide) ?_
  refine rw_put d_VG_map_2 (fP_VG_68 _) h.1 (Nat.le_of_ble_eq_true rfl) (by first | rfl | assumption | decide) (by first | rfl | assumption | decide) ?_
  refine rw_aload_n d_VG_map_5 rfl (by first | exact mm_ref_r _ | exact mm_ref_n | exact mm_ref_o _) ?_
  refine rw_get d_VG_map_6 fF_VG_35 (mup_self _ _ _) rfl ?_
  refine rw_iload_n d_VG_map_9 rfl ?_
  refine rw_callV (kc := 0) (ks := 0) (rest := []) d_VG_map_10 (c_renew (w := w) hN7 hC3 h.2.2.2.2.2.2.2.1 hpl (by omega) h3 hw (hE64 _) (hM64 _)) mW_MapKeeper_renew mL_VG_112 mI_MapKeeper_renew mE_MapKeeper_renew ⟨by decide, by decide⟩ k0 rfl rfl rfl rfl (Nat.le_of_ble_eq_true rfl) (fun r M2 sz2 hq => ?_)
  obtain ⟨rfl, rfl, q1, q2⟩ := hq
  have g2 := g1.renew q1 q2 he
  refine rw_stk (st' := []) rfl ?_
  obtain ⟨fk2, k02, k12, k22⟩ := id g2.2.2.2.1
  refine rw_aload_n d_VG_map_13 rfl (by first | exact mm_ref_r _ | exact mm_ref_n | exact mm_ref_o _) ?_
  refine rw_get d_VG_map_14 fF_VG_35 g2.1 rfl ?_
  refine rw_callV (kc := 0) (ks := 0) (rest := []) d_VG_map_17 (c_proclaim hN7 g2.2.2.2.2.2.2.2.1 g2.2.2.2.2.2.2.2.2.1 g2.2.2.1.2.2.1 (by omega) (by omega) g2.2.2.2.1 g2.2.2.1.1) mW_MapKeeper_proclaim mL_VG_115 mI_MapKeeper_proclaim mE_MapKeeper_proclaim ⟨by decide, by decide⟩ k02 rfl rfl rfl rfl (Nat.le_of_ble_eq_true rfl) (fun r M3 sz3 hq => ?_)
  obtain ⟨rfl, rfl, q3, q4⟩ := hq
  have g3 := g2.sent q3 q4
  have eqf : (fun n => pu (pu y 3 0) 0 (pu y 3 0 0 + 1) (20 + n)) = fun n => y (20 + n) := funext fun n => by rw [pu_ne _ _ (by omega), pu_ne _ _ (by omega)]
  rw [eqf] at g3
  refine rw_stk (st' := []) rfl ?_
  refine rw_aload_n d_VG_map_20 rfl (by first | exact mm_ref_r _ | exact mm_ref_n | exact mm_ref_o _) ?_
  refine rw_get d_VG_map_21 fF_VG_35 g3.1 rfl ?_
  refine rw_get d_VG_map_24 fF_VG_79 ((q4 _ (by omega)).trans k02) rfl ?_
  refine rw_iret d_VG_map_27 rfl ⟨rfl, rfl, g3, (fr_at0 (E := E)).trans (Fr.trans (fun q hq => q2 q (by simp only [vgN] at hq; omega)) (Fr.vg q4))⟩
end CRASH
