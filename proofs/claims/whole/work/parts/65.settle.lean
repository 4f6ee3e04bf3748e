/-! VersionGroup.settle. -/
def pUps (nd : Nat → pN) (k : Nat) : Nat → pN := fun n => if n < k then pu (nd n) 0 1 else nd n
theorem pUps_succ (nd : Nat → pN) (k : Nat) : pUps nd (k + 1) = va_up (pUps nd k) k (pu (nd k) 0 1) := by
  funext n
  by_cases z : n = k
  · subst z
    rw [va_up_self, pUps, if_pos (by omega)]
  · rw [va_up_ne _ _ z]
    unfold pUps
    by_cases w : n < k
    · rw [if_pos w, if_pos (by omega)]
    · rw [if_neg w, if_neg (by omega)]
/-- the turns of settle's loop -/
def pIt (E : pE) (s : pSt) : Nat → pSt
  | 0 => s
  | k + 1 => pTick E (pBA E 1000000 (pIt E s k))
/-- silence, and all answers there -/
def pDone (s : pSt) : Prop := s.2.1 = [] ∧ ∀ i, s.2.2 2 ≤ i → i < s.2.2 1 → s.2.2 (40 + i % 8) = 1
def pTell (s : pSt) : pSt := (s.1, s.2.1, pu (pu s.2.2 2 (s.2.2 1)) 3 1)
section SETTLE
variable {l : Launch} {G : mm_G} {sz : Nat} {ca : Nat → Nat} {cm : Nat → pCm} {g : Nat} {E : pE} {v : Nat} {nd : Nat → pN} {post : List pMsg} {y : pN} {J : pSt → Prop}
theorem Jc.it {s : pSt} (hJ : Jc E J) (hs : J s) : ∀ k, J (pIt E s k) := by
  intro k
  induction k with
  | zero => exact hs
  | succ k ih => exact hJ.2.2.2 _ (hJ.all _ _ ih)
def StQ (G : mm_G) (M : mm_M) (sz : Nat) (ca : Nat → Nat) (cm : Nat → pCm) (g : Nat) (E : pE) (v op : Nat) (s : pSt) : Option Value → mm_M → Nat → Prop := fun r M' sz' => sz' = sz ∧ Fr M M' v (vgN E) ∧ ((∃ k, k < 1000 ∧ (∀ j, j < k → ¬ pDone (pIt E s (j + 1))) ∧ pDone (pIt E s (k + 1)) ∧ r = some (.int (nI op)) ∧ VgP G M' ca cm g E v (pTell (pIt E s (k + 1))).1 (pTell (pIt E s (k + 1))).2.1 (pTell (pIt E s (k + 1))).2.2) ∨ ∀ j, j < 1000 → ¬ pDone (pIt E s (j + 1)))
theorem VgP.tell {M M' : mm_M} (h : VgP G M ca cm g E v nd post y) (hD : DkP M' ca cm (v + 332) (v + 2) (y 1) (y 1) (fun j => y (40 + j))) (hq : ∀ x, x ≠ v + 332 → M' x = M x) : VgP G M' ca cm g E v nd post (pu y 2 (y 1)) := by
  obtain ⟨h0, ⟨f, h1, h1b⟩, h2, h3, h4, h5, h6, h7, h8, h9, h10⟩ := h
  have ey : ∀ z, z ≠ 2 → pu y 2 (y 1) z = y z := fun z hz => pu_ne _ _ hz
  have hF : Fr M M' (v + 332) 4 := fun q hqq => hq q (by omega)
  refine ⟨?_, ⟨f, (hq _ (by omega)).trans h1, h1b⟩, h2.out (by omega) (fun i hi => h4.apart h2.2.1 hi) hF, ?_, ?_, ?_, fun n hn => (h6 n hn).kept (fun q y1 y2 => hq q (by omega)), ?_, fun n hn => ?_, ?_, h10⟩
  · rw [hq _ (by omega), h0]
    simp only [vgO]
    rw [ey 3 (by omega)]
  · rw [ey 0 (by omega)]
    exact (h3.kept (fun q y1 y2 => hq q (by omega))).ext (fun m hm => ey _ (by omega))
  · rw [ey 1 (by omega), pu_self]
    exact hD.ext (fun m hm => ey _ (by omega))
  · rw [ey 1 (by omega)]
    exact h5
  · rw [ey 0 (by omega)]
    exact h7
  · rw [ey _ (by omega)]
    exact h8 n hn
  · rw [ey 3 (by omega)]
    exact h9
set_option maxRecDepth 100000 in
theorem settle_loop {M : mm_M} {op : Nat} {s : pSt} (hJ : Jc E J) (hs : J s) : ∀ (m k : Nat) (M1 : mm_M), m + k = 1000 → (∀ j, j < k → ¬ pDone (pIt E s (j + 1))) → VgP G M1 ca cm g E v (pIt E s k).1 (pIt E s k).2.1 (pIt E s k).2.2 → Fr M M1 v (vgN E) →
    RW l G Y_VG_settle (rm 8) (mm_Z G (rm 8) (StQ G M sz ca cm g E v op s)) 0 0 57 [(0, .ref v), (1, .int (nI op)), (2, .int (nI k))] [] M1 sz := by
  intro m
  induction m with
  | zero =>
    intro k M1 hk hno h hF
    refine rw_iload_n d_VG_settle_57 rfl ?_
    refine rw_sipush (v := 1000) d_VG_settle_58 (by decide) ?_
    refine rw_icmp_ge_t (tgt := 112) d_VG_settle_61 (by decide) (nI_le (a := 1000) (by omega) (by omega)) ?_
    refine rw_bipush (v := (-4)) d_VG_settle_112 (by decide) ?_
    exact rw_iret d_VG_settle_114 rfl ⟨rfl, hF, Or.inr (fun j hj => hno j (by omega))⟩
  | succ m ih =>
    intro k M1 hk hno h hF
    have hJk := hJ.it hs k
    refine rw_iload_n d_VG_settle_57 rfl ?_
    refine rw_sipush (v := 1000) d_VG_settle_58 (by decide) ?_
    refine rw_icmp_ge_f (tgt := 112) d_VG_settle_61 (by decide) (nI_ge (b := 1000) (by omega) (by omega)) ?_
    refine rw_aload_n d_VG_settle_64 rfl (by first | exact mm_ref_r _ | exact mm_ref_n | exact mm_ref_o _) ?_
    refine rw_callV (kc := 0) (ks := 0) (rest := []) d_VG_settle_65 (c_bringAll hJ hJk h) mW_VG_bringAll mL_VG_122 mI_VG_bringAll mE_VG_bringAll ⟨by decide, by decide⟩ h.1 rfl rfl rfl rfl (Nat.le_of_ble_eq_true rfl) (fun r M2 sz2 hq => ?_)
    obtain ⟨rfl, rfl, q1, q2⟩ := hq
    refine rw_stk (st' := []) rfl ?_
    refine rw_aload_n d_VG_settle_68 rfl (by first | exact mm_ref_r _ | exact mm_ref_n | exact mm_ref_o _) ?_
    refine rw_callV (kc := 0) (ks := 0) (rest := []) d_VG_settle_69 (c_passOneTick (s := pBA E 1000000 (pIt E s k)) q1 (hJ.1 _ (hJ.all _ _ hJk)).2) mW_VG_passOneTick mL_VG_99 mI_VG_passOneTick mE_VG_passOneTick ⟨by decide, by decide⟩ q1.1 rfl rfl rfl rfl (Nat.le_of_ble_eq_true rfl) (fun r M3 sz3 hq => ?_)
    obtain ⟨rfl, rfl, q3, q4⟩ := hq
    have hF3 := hF.trans (q2.trans q4)
    have q3' : VgP G M3 ca cm g E v (pIt E s (k + 1)).1 (pIt E s (k + 1)).2.1 (pIt E s (k + 1)).2.2 := q3
    have hlen := q3'.len
    refine rw_stk (st' := []) rfl ?_
    have next : ¬ pDone (pIt E s (k + 1)) → RW l G Y_VG_settle (rm 8) (mm_Z G (rm 8) (StQ G M sz3 ca cm g E v op s)) 0 0 106 [(0, .ref v), (1, .int (nI op)), (2, .int (nI k))] [] M3 sz3 := by
      intro hnd
      refine rw_iinc d_VG_settle_106 (by decide) rfl rfl rfl ?_
      refine rw_lv (lv' := [(0, .ref v), (1, .int (nI op)), (2, .int (nI (k + 1)))]) (by rw [← nI_1]; intro q hq; simp at hq; rcases hq with rfl | rfl | rfl <;> rfl) ?_
      refine rw_goto (tgt := 57) d_VG_settle_109 (by decide) ?_
      refine ih (k + 1) M3 (by omega) (fun j hj => ?_) q3' hF3
      by_cases z : j = k
      · rw [z]
        exact hnd
      · exact hno j (by omega)
    refine rw_aload_n d_VG_settle_72 rfl (by first | exact mm_ref_r _ | exact mm_ref_n | exact mm_ref_o _) ?_
    refine rw_get d_VG_settle_73 fF_VG_24 q3'.1 rfl ?_
    refine rw_get d_VG_settle_76 fF_VG_125 q3'.post rfl ?_
    by_cases c1 : (pIt E s (k + 1)).2.1.length = 0
    · rw [c1]
      refine rw_if_ne_f (tgt := 106) d_VG_settle_79 (by decide) (by decide) ?_
      have hD := q3'.2.2.2.2.1
      obtain ⟨cs, arr, an, d0, -⟩ := id hD
      refine rw_aload_n d_VG_settle_82 rfl (by first | exact mm_ref_r _ | exact mm_ref_n | exact mm_ref_o _) ?_
      refine rw_get d_VG_settle_83 fF_VG_44 q3'.1 rfl ?_
      refine rw_callV (kc := 0) (ks := 0) (rest := []) d_VG_settle_86 (c_hasAll hD) mW_Desk_hasAllAnswers mL_VG_128 mI_Desk_hasAllAnswers mE_Desk_hasAllAnswers ⟨by decide, by decide⟩ d0 rfl rfl rfl rfl (Nat.le_of_ble_eq_true rfl) (fun r M4 sz4 hq => ?_)
      obtain ⟨⟨c, rfl, hc⟩, rfl, rfl⟩ := hq
      refine rw_stk (st' := [.int (bI c)]) rfl ?_
      cases c with
      | true =>
        have hall := hc.mp rfl
        refine rw_if_eq_f (tgt := 106) d_VG_settle_89 (by decide) (by decide) ?_
        refine rw_aload_n d_VG_settle_92 rfl (by first | exact mm_ref_r _ | exact mm_ref_n | exact mm_ref_o _) ?_
        refine rw_get d_VG_settle_93 fF_VG_44 q3'.1 rfl ?_
        refine rw_callV (kc := 0) (ks := 0) (rest := []) d_VG_settle_96 (c_tell hD hall) mW_Desk_tellAnswers mL_VG_131 mI_Desk_tellAnswers mE_Desk_tellAnswers ⟨by decide, by decide⟩ d0 rfl rfl rfl rfl (Nat.le_of_ble_eq_true rfl) (fun r M5 sz5 hq => ?_)
        obtain ⟨rfl, rfl, q5, q6⟩ := hq
        have g5 := q3'.tell q5 q6
        refine rw_stk (st' := []) rfl ?_
        refine rw_aload_n d_VG_settle_99 rfl (by first | exact mm_ref_r _ | exact mm_ref_n | exact mm_ref_o _) ?_
        refine rw_iconst (v := 1) d_VG_settle_100 (by decide) ?_
        refine rw_put d_VG_settle_101 (fP_VG_68 _) g5.1 (Nat.le_of_ble_eq_true rfl) (by first | rfl | assumption | decide) (by first | rfl | assumption | decide) ?_
        refine rw_iload_n d_VG_settle_104 rfl ?_
        have g6 : VgP G (mup M5 v (.inr (10, [.ref (v + 2), .ref (v + 330), .ref (v + 332), .ref (v + 336), .int 1]))) ca cm g E v _ _ (pu (pu (pIt E s (k + 1)).2.2 2 ((pIt E s (k + 1)).2.2 1)) 3 1) := g5.calm (c := 1) (by omega) rfl
        exact rw_iret d_VG_settle_105 rfl ⟨rfl, hF3.trans (Fr.trans (fun q hq => q6 q (by simp only [vgN] at hq; omega)) (fr_at0 (E := E))), Or.inl ⟨k, by omega, hno, ⟨List.eq_nil_of_length_eq_zero c1, hall⟩, rfl, g6⟩⟩
      | false =>
        refine rw_if_eq_t (tgt := 106) d_VG_settle_89 (by decide) (rfl) ?_
        exact next (fun z => absurd (hc.mpr z.2) (by decide))
    · refine rw_if_ne_t (tgt := 106) d_VG_settle_79 (by decide) (nI_ne0 (by omega) (by omega)) ?_
      exact next (fun z => c1 (by rw [z.1]; rfl))
set_option maxRecDepth 100000 in
theorem ups_loop {M : mm_M} {op : Nat} (hJ : Jc E J) (he : y 0 + 1 < 1000000) (hw : (-1 : Int32) &&& nI (2 ^ eN E - 1) = nI (E.2.2 (y 0 + 1))) (hs : J (pUps nd (eN E), pSend post (pProc (y 0 + 1) (fun n => y (20 + n)) (eN E)), pu y 0 (y 0 + 1))) : ∀ (m k : Nat) (M1 : mm_M), m + k = eN E → VgP G M1 ca cm g E v (pUps nd k) post y → Fr M M1 v (vgN E) →
    RW l G Y_VG_settle (rm 8) (mm_Z G (rm 8) (StQ G M sz ca cm g E v op (pUps nd (eN E), pSend post (pProc (y 0 + 1) (fun n => y (20 + n)) (eN E)), pu y 0 (y 0 + 1)))) 0 0 15 [(0, .ref v), (1, .int (nI op)), (2, .int (nI k))] [] M1 sz := by
  intro m
  induction m with
  | zero =>
    intro k M1 hk h hF
    obtain ⟨h0, ⟨f, h1, h1b⟩, h2, h3, -⟩ := id h
    obtain ⟨-, -, hpl, hlt, hN7, hCN, hC3, hg, hM64, hE64⟩ := id h2
    obtain ⟨fk, k0, k1, k2⟩ := id h3
    have : k = eN E := by omega
    rw [this] at h ⊢
    refine rw_iload_n d_VG_settle_15 rfl ?_
    refine rw_aload_n d_VG_settle_16 rfl (by first | exact mm_ref_r _ | exact mm_ref_n | exact mm_ref_o _) ?_
    refine rw_get d_VG_settle_17 fF_VG_54 h0 rfl ?_
    refine rw_alen d_VG_settle_20 h1 (by decide) rfl ?_
    refine rw_icmp_ge_t (tgt := 40) d_VG_settle_21 (by decide) (nI_le (a := eN E) (b := eN E) (by omega) (by omega)) ?_
    refine rw_aload_n d_VG_settle_40 rfl (by first | exact mm_ref_r _ | exact mm_ref_n | exact mm_ref_o _) ?_
    refine rw_get d_VG_settle_41 fF_VG_35 h0 rfl ?_
    refine rw_iconst (v := (-1)) d_VG_settle_44 (by decide) ?_
    refine rw_callV (kc := 0) (ks := 0) (rest := []) d_VG_settle_45 (c_renew (w := -1) hN7 hC3 (by omega) hpl (by omega) h3 hw (hE64 _) (hM64 _)) mW_MapKeeper_renew mL_VG_112 mI_MapKeeper_renew mE_MapKeeper_renew ⟨by decide, by decide⟩ k0 rfl rfl rfl rfl (Nat.le_of_ble_eq_true rfl) (fun r M2 sz2 hq => ?_)
    obtain ⟨rfl, rfl, q1, q2⟩ := hq
    have g2 := h.renew q1 q2 he
    refine rw_stk (st' := []) rfl ?_
    obtain ⟨fk2, k02, k12, k22⟩ := id g2.2.2.2.1
    refine rw_aload_n d_VG_settle_48 rfl (by first | exact mm_ref_r _ | exact mm_ref_n | exact mm_ref_o _) ?_
    refine rw_get d_VG_settle_49 fF_VG_35 g2.1 rfl ?_
    refine rw_callV (kc := 0) (ks := 0) (rest := []) d_VG_settle_52 (c_proclaim hN7 g2.2.2.2.2.2.2.2.1 g2.2.2.2.2.2.2.2.2.1 g2.2.2.1.2.2.1 (by omega) (by omega) g2.2.2.2.1 g2.2.2.1.1) mW_MapKeeper_proclaim mL_VG_115 mI_MapKeeper_proclaim mE_MapKeeper_proclaim ⟨by decide, by decide⟩ k02 rfl rfl rfl rfl (Nat.le_of_ble_eq_true rfl) (fun r M3 sz3 hq => ?_)
    obtain ⟨rfl, rfl, q3, q4⟩ := hq
    have g3 := g2.sent q3 q4
    have eqf : (fun n => pu y 0 (y 0 + 1) (20 + n)) = fun n => y (20 + n) := funext fun n => pu_ne _ _ (by omega)
    rw [eqf] at g3
    refine rw_stk (st' := []) rfl ?_
    refine rw_iconst (v := 0) d_VG_settle_55 (by decide) ?_
    refine rw_istore_n d_VG_settle_56 (by decide) rfl ?_
    refine rw_lv (lv' := [(0, .ref v), (1, .int (nI op)), (2, .int (nI 0))]) (by intro q hq; simp at hq; rcases hq with rfl | rfl | rfl <;> rfl) ?_
    exact settle_loop hJ hs 1000 0 M3 (by omega) (fun j hj => by omega) g3 (hF.trans (Fr.trans (fun q hq => q2 q (by simp only [vgN] at hq; omega)) (Fr.vg q4)))
  | succ m ih =>
    intro k M1 hk h hF
    obtain ⟨h0, ⟨f, h1, h1b⟩, h2, h3, h4, h5, h6, -⟩ := id h
    have hN7 := h2.2.2.2.2.1
    have hkN : k < eN E := by omega
    have e0 : pUps nd k k = nd k := by rw [pUps, if_neg (by omega)]
    have hNk := h6 k hkN
    rw [e0] at hNk
    refine rw_iload_n d_VG_settle_15 rfl ?_
    refine rw_aload_n d_VG_settle_16 rfl (by first | exact mm_ref_r _ | exact mm_ref_n | exact mm_ref_o _) ?_
    refine rw_get d_VG_settle_17 fF_VG_54 h0 rfl ?_
    refine rw_alen d_VG_settle_20 h1 (by decide) rfl ?_
    refine rw_icmp_ge_f (tgt := 40) d_VG_settle_21 (by decide) (nI_ge (a := k) (b := eN E) hkN (by omega)) ?_
    refine rw_aload_n d_VG_settle_24 rfl (by first | exact mm_ref_r _ | exact mm_ref_n | exact mm_ref_o _) ?_
    refine rw_get d_VG_settle_25 fF_VG_54 h0 rfl ?_
    refine rw_iload_n d_VG_settle_28 rfl ?_
    refine rw_aald d_VG_settle_29 h1 (by decide) rfl (vp_in_nI hkN (by omega)) ?_
    rw [nI_c (by omega), h1b k hkN]
    refine rw_stk (st' := [.ref (v + 337 + 15 * k)]) rfl ?_
    refine rw_iconst (v := 1) d_VG_settle_30 (by decide) ?_
    refine rw_put d_VG_settle_31 (fP_VG_105 _) hNk.1 (Nat.le_of_ble_eq_true rfl) (by first | rfl | assumption | decide) (by first | rfl | assumption | decide) ?_
    have hNn := hNk.flag (f := 0) (v := 1) (e := .inr (9, [.int (nI k), .ref (v + 1), .ref (v + 2), .ref (v + 337 + 15 * k + 1), .ref (v + 337 + 15 * k + 6), .ref (v + 337 + 15 * k + 11), .int 1, .int (nI (nd k 1)), .int (nI (nd k 2)), .int (nI (nd k 3))])) (by omega) (by omega) rfl
    have hF4 : ∀ M2 : mm_M, ∀ e1, Fr M2 (mup M2 (v + 337 + 15 * k) e1) (v + 337 + 15 * k) 15 := fun M2 e1 => Fr.mup Fr.rf (by omega) (by omega)
    refine rw_iinc d_VG_settle_34 (by decide) rfl rfl rfl ?_
    refine rw_lv (lv' := [(0, .ref v), (1, .int (nI op)), (2, .int (nI (k + 1)))]) (by rw [← nI_1]; intro q hq; simp at hq; rcases hq with rfl | rfl | rfl <;> rfl) ?_
    refine rw_goto (tgt := 15) d_VG_settle_37 (by decide) ?_
    refine ih (k + 1) _ (by omega) ?_ (hF.trans (Fr2.vg hkN (Fr2.of1 (hF4 _ _))))
    rw [pUps_succ]
    exact h.node hkN hNn (h2.node hNk (by omega) (hF4 _ _)) (Fr2.of1 (hF4 _ _))
set_option maxRecDepth 100000 in
theorem c_settle {M : mm_M} (hJ : Jc E J) (h : VgP G M ca cm g E v nd post y) (he : y 0 + 1 < 1000000) (hw : (-1 : Int32) &&& nI (2 ^ eN E - 1) = nI (E.2.2 (y 0 + 1))) (hs : J (pUps nd (eN E), pSend post (pProc (y 0 + 1) (fun n => y (20 + n)) (eN E)), pu (pu y 3 0) 0 (y 0 + 1))) :
    CT l G Y_VG_settle ds_VG_settle (rm 8) [.ref v] M sz (StQ G M sz ca cm g E v (y 1 - y 2) (pUps nd (eN E), pSend post (pProc (y 0 + 1) (fun n => y (20 + n)) (eN E)), pu (pu y 3 0) 0 (y 0 + 1))) := by
  have g1 : VgP G (mup M v (.inr (10, [.ref (v + 2), .ref (v + 330), .ref (v + 332), .ref (v + 336), .int 0]))) ca cm g E v nd post (pu y 3 0) := h.calm (c := 0) (by omega) rfl
  obtain ⟨cs, arr, an, d0, -⟩ := id h.2.2.2.2.1
  refine CT.of (by decide) (Nat.le_of_ble_eq_true rfl) ?_
  refine rw_aload_n d_VG_settle_0 rfl (by first | exact mm_ref_r _ | exact mm_ref_n | exact mm_ref_o _) ?_
  refine rw_get d_VG_settle_1 fF_VG_44 h.1 rfl ?_
  refine rw_callV (kc := 0) (ks := 0) (rest := []) d_VG_settle_4 (c_open h.2.2.2.2.1) mW_Desk_open mL_VG_118 mI_Desk_open mE_Desk_open ⟨by decide, by decide⟩ d0 rfl rfl rfl rfl (Nat.le_of_ble_eq_true rfl) (fun r M1 sz1 hq => ?_)
  obtain ⟨rfl, rfl, rfl⟩ := hq
  refine rw_stk (st' := [.int (nI (y 1 - y 2))]) rfl ?_
  refine rw_istore_n d_VG_settle_7 (by decide) rfl ?_
  refine rw_aload_n d_VG_settle_8 rfl (by first | exact mm_ref_r _ | exact mm_ref_n | exact mm_ref_o _) ?_
  refine rw_iconst (v := 0) d_VG_settle_9 (by decide) ?_
  refine rw_put d_VG_settle_10 (fP_VG_68 _) h.1 (Nat.le_of_ble_eq_true rfl) (by first | rfl | assumption | decide) (by first | rfl | assumption | decide) ?_
  refine rw_iconst (v := 0) d_VG_settle_13 (by decide) ?_
  refine rw_istore_n d_VG_settle_14 (by decide) rfl ?_
  refine rw_lv (lv' := [(0, .ref v), (1, .int (nI (y 1 - y 2))), (2, .int (nI 0))]) (by intro q hq; simp at hq; rcases hq with rfl | rfl | rfl <;> rfl) ?_
  have eqf : (fun n => pu y 3 0 (20 + n)) = fun n => y (20 + n) := funext fun n => pu_ne _ _ (by omega)
  have := ups_loop (l := l) (sz := sz1) (M := M1) (op := y 1 - y 2) (y := pu y 3 0) (nd := nd) (post := post) hJ he hw (by rw [eqf]; exact hs) (eN E) 0 _ (by omega) (by rw [show pUps nd 0 = nd from funext fun n => if_neg (by omega)]; exact g1) (fr_at0 (E := E))
  rw [eqf] at this
  exact this
end SETTLE
