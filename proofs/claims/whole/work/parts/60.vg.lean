/-! VersionGroup: the whole picture; a message arrives. -/
abbrev vgO (v : Nat) (y : pN) : va_E := .inr (10, [.ref (v + 2), .ref (v + 330), .ref (v + 332), .ref (v + 336), .int (nI (y 3))])
/-- globals y: 0 epoch, 1 given, 2 told, 3 calm, 20+n heard of n, 40+j arrived -/
def VgP (G : mm_G) (M : mm_M) (ca : Nat → Nat) (cm : Nat → pCm) (g : Nat) (E : pE) (v : Nat) (nd : Nat → pN) (post : List pMsg) (y : pN) : Prop :=
  M v = some (vgO v y) ∧ (∃ f, M (v + 336) = some (aR 5 (eN E) f) ∧ ∀ n, n < eN E → f n = some (v + 337 + 15 * n)) ∧ SyP G M ca cm g E (v + 1) (v + 2) post ∧ KpP M E (v + 330) (v + 1) (v + 2) (y 0) (fun n => y (20 + n)) ∧ DkP M ca cm (v + 332) (v + 2) (y 1) (y 2) (fun j => y (40 + j)) ∧ y 1 = g ∧
  (∀ n, n < eN E → NdP M ca cm g E (v + 1) (v + 2) (v + 337 + 15 * n) n (nd n)) ∧ y 0 < 1000000 ∧ (∀ n, n < eN E → y (20 + n) < 1000000) ∧ y 3 ≤ 1 ∧ 3 ≤ eN E
/-- a message arrives -/
def pArr (E : pE) (nd : Nat → pN) (post : List pMsg) (y : pN) (m : pMsg) : (Nat → pN) × List pMsg × pN :=
  if m.1 = 1 then (nd, post, pu y (20 + m.2.1) (max (y (20 + m.2.1)) m.2.2.2.1))
  else if m.1 = 3 then (nd, post, if y 2 ≤ m.2.2.2.2.1 ∧ m.2.2.2.2.1 < y 1 then pu y (40 + m.2.2.2.2.1 % 8) 1 else y)
  else if nd m.2.2.1 0 = 1 then (va_up nd m.2.2.1 (pHear E m.2.2.1 (nd m.2.2.1) m).1, pSend post (pHear E m.2.2.1 (nd m.2.2.1) m).2, y)
  else (nd, post, y)
theorem KpP.ext {M : mm_M} {E : pE} {k pl p ep : Nat} {hd hd' : Nat → Nat} (h : KpP M E k pl p ep hd) (e : ∀ n, n < eN E → hd' n = hd n) : KpP M E k pl p ep hd' := by
  obtain ⟨f, h1, h2, h3⟩ := h
  exact ⟨f, h1, h2, fun n hn => by rw [e n hn]; exact h3 n hn⟩
theorem DkP.ext {M : mm_M} {ca : Nat → Nat} {cm : Nat → pCm} {k p gv td : Nat} {ar ar' : Nat → Nat} (h : DkP M ca cm k p gv td ar) (e : ∀ j, j < 8 → ar' j = ar j) : DkP M ca cm k p gv td ar' := by
  obtain ⟨cs, arr, an, h0, h1, h2, h3, b1, b2, b3, b4, b5, b6⟩ := h
  exact ⟨cs, arr, an, h0, h1, h2, h3, b1, b2, b3, b4, fun j hj => by rw [e j hj]; exact b5 j hj, fun i i1 i2 => b6 i i1 (i2.imp id (fun z => by rw [← e _ (Nat.mod_lt _ (by omega))]; exact z))⟩
theorem SyP.out {G : mm_G} {M M' : mm_M} {ca : Nat → Nat} {cm : Nat → pCm} {g : Nat} {E : pE} {pl p z n : Nat} {post : List pMsg} (h : SyP G M ca cm g E pl p post) (hz : p + 328 ≤ z) (ha : ∀ i, i < g → ca i < z ∨ z + n ≤ ca i) (hF : Fr M M' z n) : SyP G M' ca cm g E pl p post :=
  ⟨h.1.kept (fun q y1 y2 => hF q (by omega)), h.2.1.kept (fun i hi => hF _ (ha i hi)), (hF _ (by have := h.2.2.2.1; omega)).trans h.2.2.1, h.2.2.2⟩
theorem KpP.apart {M : mm_M} {E : pE} {ca : Nat → Nat} {cm : Nat → pCm} {g : Nat} {k pl p ep i : Nat} {hd : Nat → Nat} (h : KpP M E k pl p ep hd) (hA : CmA M ca cm g) (hi : i < g) : ca i < k ∨ k + 2 ≤ ca i := by
  obtain ⟨f, h1, h2, h3⟩ := h
  have e := (hA i hi).2
  have q0 : ca i ≠ k := fun q => by rw [q, h1] at e; cases e
  have q1 : ca i ≠ k + 1 := fun q => by rw [q, h2] at e; cases e
  omega
theorem DkP.apart {M : mm_M} {ca : Nat → Nat} {cm : Nat → pCm} {g : Nat} {k p gv td i : Nat} {ar : Nat → Nat} (h : DkP M ca cm k p gv td ar) (hA : CmA M ca cm g) (hi : i < g) : ca i < k ∨ k + 4 ≤ ca i := by
  obtain ⟨cs, arr, an, h0, h1, h2, h3, -⟩ := h
  have e := (hA i hi).2
  have q0 : ca i ≠ k := fun q => by rw [q, h0] at e; cases e
  have q1 : ca i ≠ k + 1 := fun q => by rw [q, h1] at e; cases e
  have q2 : ca i ≠ k + 2 := fun q => by rw [q, h2] at e; cases e
  have q3 : ca i ≠ k + 3 := fun q => by rw [q, h3] at e; cases e
  omega
section VG
variable {l : Launch} {G : mm_G} {sz : Nat} {ca : Nat → Nat} {cm : Nat → pCm} {g : Nat} {E : pE} {v : Nat} {nd : Nat → pN} {post : List pMsg} {y : pN}
/-- all cells of the object -/
abbrev vgN (E : pE) : Nat := 337 + 15 * eN E
/-- a node and the post changed -/
theorem VgP.node {M M' : mm_M} {n : Nat} {x' : pN} {post' : List pMsg} (h : VgP G M ca cm g E v nd post y) (hn : n < eN E) (hN : NdP M' ca cm g E (v + 1) (v + 2) (v + 337 + 15 * n) n x') (hS : SyP G M' ca cm g E (v + 1) (v + 2) post') (hF : Fr2 M M' (v + 2) (v + 337 + 15 * n)) : VgP G M' ca cm g E v (va_up nd n x') post' y := by
  obtain ⟨h0, ⟨f, h1, h1b⟩, h2, h3, h4, h5, h6, h7, h8, h9⟩ := h
  refine ⟨(hF _ (by omega) (by omega)).trans h0, ⟨f, (hF _ (by omega) (by omega)).trans h1, h1b⟩, hS, h3.kept (fun q y1 y2 => hF q (by omega) (by omega)), h4.kept (fun q y1 y2 => hF q (by omega) (by omega)), h5, fun m hm => ?_, h7, h8, h9⟩
  by_cases z : m = n
  · subst z
    rw [va_up_self]
    exact hN
  · rw [va_up_ne _ _ z]
    exact (h6 m hm).kept (fun q y1 y2 => hF q (by omega) (by omega))
theorem Fr2.vg {M M' : mm_M} {n : Nat} (hn : n < eN E) (hF : Fr2 M M' (v + 2) (v + 337 + 15 * n)) : Fr M M' v (vgN E) := fun q hq => hF q (by simp only [vgN] at hq; omega) (by simp only [vgN] at hq; omega)
theorem c_isNode {M : mm_M} {k : Int32} (h : VgP G M ca cm g E v nd post y) : CT l G Y_VG_isNode ds_VG_isNode (rm 1) [.ref v, .int k] M sz (fun r M' sz' => (∃ c : Bool, r = some (.int (bI c)) ∧ (c = true ↔ ∃ n, n < eN E ∧ k = nI n)) ∧ M' = M ∧ sz' = sz) := by
  obtain ⟨h0, ⟨f, h1, h1b⟩, h2, -⟩ := id h
  have hN7 := h2.2.2.2.2.1
  refine CT.of (by decide) (Nat.le_of_ble_eq_true rfl) ?_
  refine rw_iload_n d_VG_isNode_0 rfl ?_
  refine rw_if_lt (tgt := 17) d_VG_isNode_1 (by decide) (fun q => ?_) (fun q => ?_)
  · refine rw_iconst (v := 0) d_VG_isNode_17 (by decide) ?_
    refine rw_zret d_VG_isNode_18 rfl rfl ⟨⟨false, rfl, (fun z => by cases z), fun ⟨n, hn, z⟩ => ?_⟩, rfl, rfl⟩
    rw [z] at q
    exact absurd q (nI_pos (by omega))
  · refine rw_iload_n d_VG_isNode_4 rfl ?_
    refine rw_aload_n d_VG_isNode_5 rfl (by first | exact mm_ref_r _ | exact mm_ref_n | exact mm_ref_o _) ?_
    refine rw_get d_VG_isNode_6 fF_VG_54 h0 rfl ?_
    refine rw_alen d_VG_isNode_9 h1 (by decide) rfl ?_
    obtain ⟨n, hn, rfl⟩ := nI_of q
    by_cases c : n < eN E
    · refine rw_icmp_ge_f (tgt := 17) d_VG_isNode_10 (by decide) (nI_ge (a := n) (b := eN E) c (by omega)) ?_
      refine rw_iconst (v := 1) d_VG_isNode_13 (by decide) ?_
      refine rw_goto (tgt := 18) d_VG_isNode_14 (by decide) ?_
      exact rw_zret d_VG_isNode_18 rfl rfl ⟨⟨true, rfl, fun _ => ⟨n, c, rfl⟩, fun _ => rfl⟩, rfl, rfl⟩
    · refine rw_icmp_ge_t (tgt := 17) d_VG_isNode_10 (by decide) (nI_le (a := eN E) (b := n) (by omega) hn) ?_
      refine rw_iconst (v := 0) d_VG_isNode_17 (by decide) ?_
      refine rw_zret d_VG_isNode_18 rfl rfl ⟨⟨false, rfl, (fun z => by cases z), fun ⟨n2, hn2, z⟩ => ?_⟩, rfl, rfl⟩
      rw [nI_eq hn (by omega)] at z
      omega
def VgQ (G : mm_G) (M : mm_M) (sz : Nat) (ca : Nat → Nat) (cm : Nat → pCm) (g : Nat) (E : pE) (v : Nat) (s : (Nat → pN) × List pMsg × pN) : Option Value → mm_M → Nat → Prop := fun r M' sz' => r = none ∧ sz' = sz ∧ VgP G M' ca cm g E v s.1 s.2.1 s.2.2 ∧ Fr M M' v (vgN E)
set_option maxRecDepth 100000 in
theorem c_arrive {M : mm_M} {j : Nat} {m : pMsg} (h : VgP G M ca cm g E v nd post y) (hj : j < 64) (hm : MsP G M ca cm g E (v + 2 + 3 + 5 * j) m) (hok : mOk E m) : CT l G Y_VG_arrive ds_VG_arrive (rm 6) [.ref v, .ref (v + 2 + 3 + 5 * j)] M sz (VgQ G M sz ca cm g E v (pArr E nd post y m)) := by
  obtain ⟨h0, ⟨f, h1, h1b⟩, h2, h3, h4, h5, h6, h7, h8, h9, h10⟩ := id h
  obtain ⟨hP, hA, hpl, hlt, hN7, hCN, -, hg, hM64, -⟩ := id h2
  obtain ⟨k, fr, t, e, u, w⟩ := m
  obtain ⟨o1, o2, o3, o4, o5, o6⟩ := id hok
  simp only at o1 o2 o3 o4 o5 o6
  obtain ⟨s, en, dn, nu, an, cv, d0, b0, w1, w2, w3, w4, w5, w6, w7, w8, w9⟩ := id hm
  simp only at w1 w4 w5 w6 w7 w8 w9
  obtain ⟨fk, k0, k1, k2⟩ := id h3
  obtain ⟨cs, arr, an2, d1, d2, d3, d4, e1, e2, e3, e4, e5, e6⟩ := id h4
  refine CT.of (by decide) (Nat.le_of_ble_eq_true rfl) ?_
  refine rw_aload_n d_VG_arrive_0 rfl (by first | exact mm_ref_r _ | exact mm_ref_n | exact mm_ref_o _) ?_
  refine rw_get d_VG_arrive_1 fF_VG_195 w1 rfl ?_
  refine rw_kind (i := 1) (by decide) fS_VG_201 d_VG_arrive_4 ?_
  by_cases c1 : k = 1
  · subst c1
    have hfr := o3 (by omega)
    refine rw_acmp_ne_f (tgt := 21) d_VG_arrive_7 (by decide) ?_
    refine rw_aload_n d_VG_arrive_10 rfl (by first | exact mm_ref_r _ | exact mm_ref_n | exact mm_ref_o _) ?_
    refine rw_get d_VG_arrive_11 fF_VG_35 h0 rfl ?_
    refine rw_aload_n d_VG_arrive_14 rfl (by first | exact mm_ref_r _ | exact mm_ref_n | exact mm_ref_o _) ?_
    refine rw_callV (kc := 0) (ks := 0) (rest := []) d_VG_arrive_15 (c_kHear hN7 hfr o2 h8 hpl h3 w1) mW_MapKeeper_hear mL_VG_206 mI_MapKeeper_hear mE_MapKeeper_hear ⟨by decide, by decide⟩ k0 rfl rfl rfl rfl (Nat.le_of_ble_eq_true rfl) (fun r M1 sz1 hq => ?_)
    obtain ⟨rfl, rfl, q1, q2⟩ := hq
    refine rw_stk (st' := []) rfl ?_
    refine rw_goto (tgt := 81) d_VG_arrive_18 (by decide) ?_
    have hF : Fr M M1 (v + 330) 2 := fun q hq => q2 q (by omega)
    have ep : pArr E nd post y (1, fr, t, e, u, w) = (nd, post, pu y (20 + fr) (max (y (20 + fr)) e)) := by simp [pArr]
    rw [ep]
    have ey : ∀ z, z ≠ 20 + fr → pu y (20 + fr) (max (y (20 + fr)) e) z = y z := fun z hz => pu_ne _ _ hz
    have hb := h8 fr hfr
    refine rw_vret d_VG_arrive_81 rfl ⟨rfl, rfl, ⟨?_, ⟨f, (q2 _ (by omega)).trans h1, h1b⟩, h2.out (by omega) (fun i hi => h3.apart hA hi) hF, ?_, ?_, ?_, fun m hm => (h6 m hm).kept (fun q y1 y2 => q2 q (by omega)), ?_, fun m hm => ?_, ?_, h10⟩, hF.wider (by omega) (by simp only [vgN]; omega)⟩
    · rw [q2 _ (by omega), h0]
      simp only [vgO]
      rw [ey 3 (by omega)]
    · simp only
      rw [ey 0 (by omega)]
      refine q1.ext (fun m hm => ?_)
      by_cases z : m = fr
      · rw [z, va_up_self, pu_self]
      · rw [va_up_ne _ _ z, ey _ (by omega)]
    · simp only
      rw [ey 1 (by omega), ey 2 (by omega)]
      exact (h4.kept (fun q y1 y2 => q2 q (by omega))).ext (fun m hm => ey _ (by omega))
    · simp only
      rw [ey 1 (by omega)]
      exact h5
    · simp only
      rw [ey 0 (by omega)]
      exact h7
    · by_cases z : m = fr
      · simp only
        rw [z, pu_self]
        omega
      · simp only
        rw [ey _ (by omega)]
        exact h8 m hm
    · simp only
      rw [ey 3 (by omega)]
      exact h9
  · refine rw_acmpK_t (tgt := 21) o1 (by decide) c1 d_VG_arrive_7 (by decide) ?_
    refine rw_aload_n d_VG_arrive_21 rfl (by first | exact mm_ref_r _ | exact mm_ref_n | exact mm_ref_o _) ?_
    refine rw_get d_VG_arrive_22 fF_VG_195 w1 rfl ?_
    refine rw_kind (i := 3) (by decide) fS_VG_209 d_VG_arrive_25 ?_
    by_cases c3 : k = 3
    · subst c3
      obtain ⟨rfl, rfl⟩ := w6 rfl
      refine rw_acmp_ne_f (tgt := 42) d_VG_arrive_28 (by decide) ?_
      refine rw_aload_n d_VG_arrive_31 rfl (by first | exact mm_ref_r _ | exact mm_ref_n | exact mm_ref_o _) ?_
      refine rw_get d_VG_arrive_32 fF_VG_44 h0 rfl ?_
      refine rw_aload_n d_VG_arrive_35 rfl (by first | exact mm_ref_r _ | exact mm_ref_n | exact mm_ref_o _) ?_
      refine rw_callV (kc := 0) (ks := 0) (rest := []) d_VG_arrive_36 (c_dHear (x := u) h4 (by omega) w1) mW_Desk_hear mL_VG_212 mI_Desk_hear mE_Desk_hear ⟨by decide, by decide⟩ d1 rfl rfl rfl rfl (Nat.le_of_ble_eq_true rfl) (fun r M1 sz1 hq => ?_)
      obtain ⟨rfl, rfl, q1, q2⟩ := hq
      refine rw_stk (st' := []) rfl ?_
      refine rw_goto (tgt := 81) d_VG_arrive_39 (by decide) ?_
      have ep : pArr E nd post y (3, fr, t, e, u, w) = (nd, post, if y 2 ≤ u ∧ u < y 1 then pu y (40 + u % 8) 1 else y) := by simp [pArr]
      rw [ep]
      have hm8 : u % 8 < 8 := Nat.mod_lt _ (by omega)
      have ey : ∀ z, z < 40 → (if y 2 ≤ u ∧ u < y 1 then pu y (40 + u % 8) 1 else y) z = y z := fun z hz => by
        split
        · exact pu_ne _ _ (by omega)
        · rfl
      refine rw_vret d_VG_arrive_81 rfl ⟨rfl, rfl, ⟨?_, ⟨f, (q2 _ (by omega)).trans h1, h1b⟩, h2.out (by omega) (fun i hi => h4.apart hA hi) q2, ?_, ?_, ?_, fun m hm => (h6 m hm).kept (fun q y1 y2 => q2 q (by omega)), ?_, fun m hm => ?_, ?_, h10⟩, q2.wider (by omega) (by simp only [vgN]; omega)⟩
      · rw [q2 _ (by omega), h0]
        simp only [vgO]
        rw [ey 3 (by omega)]
      · simp only
        rw [ey 0 (by omega)]
        exact (h3.kept (fun q y1 y2 => q2 q (by omega))).ext (fun m hm => ey _ (by omega))
      · simp only
        rw [ey 1 (by omega), ey 2 (by omega)]
        refine q1.ext (fun m hm => ?_)
        split
        · by_cases z : m = u % 8
          · rw [z, va_up_self, pu_self]
          · rw [va_up_ne _ _ z, pu_ne _ _ (by omega)]
        · rfl
      · simp only
        rw [ey 1 (by omega)]
        exact h5
      · simp only
        rw [ey 0 (by omega)]
        exact h7
      · simp only
        rw [ey _ (by omega)]
        exact h8 m hm
      · simp only
        rw [ey 3 (by omega)]
        exact h9
    · refine rw_acmpK_t (tgt := 42) o1 (by decide) c3 d_VG_arrive_28 (by decide) ?_
      have ht := o4 c1 c3
      have egt : gI t = nI t := by rw [gI, if_neg (by omega)]
      rw [egt] at w1
      have hit := vp_in_nI ht (show eN E < 2147483648 by omega)
      have hNt := h6 t ht
      have b0 := hNt.2.2.2.2.2 0 (by omega)
      refine rw_aload_n d_VG_arrive_42 rfl (by first | exact mm_ref_r _ | exact mm_ref_n | exact mm_ref_o _) ?_
      refine rw_aload_n d_VG_arrive_43 rfl (by first | exact mm_ref_r _ | exact mm_ref_n | exact mm_ref_o _) ?_
      refine rw_get d_VG_arrive_44 fF_VG_213 w1 rfl ?_
      refine rw_callV (kc := 0) (ks := 0) (rest := []) d_VG_arrive_47 (c_isNode (k := nI t) h) mW_VG_isNode mL_VG_102 mI_VG_isNode mE_VG_isNode ⟨by decide, by decide⟩ h0 rfl rfl rfl rfl (Nat.le_of_ble_eq_true rfl) (fun r M1 sz1 hq => ?_)
      obtain ⟨⟨c, rfl, hc⟩, rfl, rfl⟩ := hq
      have hct : c = true := hc.mpr ⟨t, ht, rfl⟩
      subst hct
      refine rw_stk (st' := [.int (bI true)]) rfl ?_
      refine rw_if_eq_f (tgt := 81) d_VG_arrive_50 (by decide) (by decide) ?_
      refine rw_aload_n d_VG_arrive_53 rfl (by first | exact mm_ref_r _ | exact mm_ref_n | exact mm_ref_o _) ?_
      refine rw_get d_VG_arrive_54 fF_VG_54 h0 rfl ?_
      refine rw_aload_n d_VG_arrive_57 rfl (by first | exact mm_ref_r _ | exact mm_ref_n | exact mm_ref_o _) ?_
      refine rw_get d_VG_arrive_58 fF_VG_213 w1 rfl ?_
      refine rw_aald d_VG_arrive_61 h1 (by decide) rfl hit ?_
      rw [nI_c (by omega), h1b t ht]
      refine rw_stk (st' := [.ref (v + 337 + 15 * t)]) rfl ?_
      refine rw_get d_VG_arrive_62 fF_VG_105 hNt.1 rfl ?_
      rcases (show nd t 0 = 0 ∨ nd t 0 = 1 by omega) with c5 | c5
      · rw [c5]
        refine rw_if_eq_t (tgt := 81) d_VG_arrive_65 (by decide) (rfl) ?_
        have ep : pArr E nd post y (k, fr, t, e, u, w) = (nd, post, y) := by simp [pArr, c1, c3, c5]
        rw [ep]
        exact rw_vret d_VG_arrive_81 rfl ⟨rfl, rfl, h, Fr.rf⟩
      · rw [c5]
        refine rw_if_eq_f (tgt := 81) d_VG_arrive_65 (by decide) (by decide) ?_
        refine rw_aload_n d_VG_arrive_68 rfl (by first | exact mm_ref_r _ | exact mm_ref_n | exact mm_ref_o _) ?_
        refine rw_get d_VG_arrive_69 fF_VG_54 h0 rfl ?_
        refine rw_aload_n d_VG_arrive_72 rfl (by first | exact mm_ref_r _ | exact mm_ref_n | exact mm_ref_o _) ?_
        refine rw_get d_VG_arrive_73 fF_VG_213 w1 rfl ?_
        refine rw_aald d_VG_arrive_76 h1 (by decide) rfl hit ?_
        rw [nI_c (by omega), h1b t ht]
        refine rw_stk (st' := [.ref (v + 337 + 15 * t)]) rfl ?_
        refine rw_aload_n d_VG_arrive_77 rfl (by first | exact mm_ref_r _ | exact mm_ref_n | exact mm_ref_o _) ?_
        refine rw_callV (kc := 0) (ks := 0) (rest := []) d_VG_arrive_78 (c_hear hNt h2 (by omega) ht hj hm hok c1 c3) mW_Node_hear mL_VG_216 mI_Node_hear mE_Node_hear ⟨by decide, by decide⟩ hNt.1 rfl rfl rfl rfl (Nat.le_of_ble_eq_true rfl) (fun r M2 sz2 hq => ?_)
        obtain ⟨rfl, rfl, q1, q2, q3⟩ := hq
        refine rw_stk (st' := []) rfl ?_
        have ep : pArr E nd post y (k, fr, t, e, u, w) = (va_up nd t (pHear E t (nd t) (k, fr, t, e, u, w)).1, pSend post (pHear E t (nd t) (k, fr, t, e, u, w)).2, y) := by simp [pArr, c1, c3, c5]
        rw [ep]
        exact rw_vret d_VG_arrive_81 rfl ⟨rfl, rfl, h.node ht q1 q2 q3, Fr2.vg ht q3⟩
end VG
