/-! VersionGroup: the whole picture; a message arrives. -/
abbrev vgO (v : Nat) (y : pN) : va_E := .inr (10, [.ref (v + 2), .ref (v + 330), .ref (v + 332), .ref (v + 336), .int (nI (y 3))])
/-- globals y: 0 epoch, 1 given, 2 told, 3 calm, 20+n heard of n, 40+j arrived -/
def VgP (G : mm_G) (M : mm_M) (ca : Nat → Nat) (cm : Nat → pCm) (g : Nat) (E : pE) (v : Nat) (nd : Nat → pN) (post : List pMsg) (y : pN) : Prop :=
  M v = some (vgO v y) ∧ (∃ f, M (v + 336) = some (aR 5 (eN E) f) ∧ ∀ n, n < eN E → f n = some (v + 337 + 15 * n)) ∧ SyP G M ca cm g E (v + 1) (v + 2) post ∧ KpP M E (v + 330) (v + 1) (v + 2) (y 0) (fun n => y (20 + n)) ∧ DkP M ca cm (v + 332) (v + 2) (y 1) (y 2) (fun j => y (40 + j)) ∧ y 1 = g ∧
  (∀ n, n < eN E → NdP M ca cm g E (v + 1) (v + 2) (v + 337 + 15 * n) n (nd n)) ∧ y 0 < 1000000 ∧ (∀ n, n < eN E → y (20 + n) < 1000000) ∧ y 3 ≤ 1 ∧ 3 ≤ eN E
/-- a message arrives -/
def pArr (E : pE) (nd : Nat → pN) (post : List pMsg) (y : pN) (m : pMsg) : (Nat → pN) × List pMsg × pN :=
  if m.1 = 1 then (nd, post, pu y (20 + m.2.1) (max (y (20 + m.2.1)) m.2.2.2.1))
  else if m.1 = 3 then (nd, post, if y 2 ≤ m.2.2.2.2.1 ∧ m.2.2.2.2.1 < y 1 then pu y (40 + m.2.2.2.2.1 % 8) 1 else y)
  else if nd m.2.2.1 0 = 1 then (va_up nd m.2.2.1 (pHear E m.2.2.1 (nd m.2.2.1) m).1, pSend post (pHear E m.2.2.1 (nd m.2.2.1) m).2, y)
  else (nd, post, y)
section VG
variable {l : Launch} {G : mm_G} {sz : Nat} {ca : Nat → Nat} {cm : Nat → pCm} {g : Nat} {E : pE} {v : Nat} {nd : Nat → pN} {post : List pMsg} {y : pN}
/-- all cells of the object -/
abbrev vgN (E : pE) : Nat := 337 + 15 * eN E
/-- a node and the post changed -/
theorem VgP.node {M M' : mm_M} {n : Nat} {x' : pN} {post' : List pMsg} (h : VgP G M ca cm g E v nd post y) (hn : n < eN E) (hN : NdP M' ca cm g E (v + 1) (v + 2) (v + 337 + 15 * n) n x') (hS : SyP G M' ca cm g E (v + 1) (v + 2) post') (hF : Fr2 M M' (v + 2) (v + 337 + 15 * n)) : VgP G M' ca cm g E v (va_up nd n x') post' y := by
  obtain ⟨h0, ⟨f, h1, h1b⟩, h2, h3, h4, h5, h6, h7, h8, h9⟩ := h
  refine ⟨(hF _ (by omega) (by omega)).trans h0, ⟨f, (hF _ (by omega) (by omega)).trans h1, h1b⟩, hS, h3.kept (fun q y1 y2 => hF q (by omega) (by omega)), h4.kept (fun q y1 y2 => hF q (by omega) (by omega)), h5, fun m hm => ?_, h7, h8, h9⟩
  by_cases z : m = n
  · subst z
    rw [va_up_self]
    exact hN
  · rw [va_up_ne _ _ z]
    exact (h6 m hm).kept (fun q y1 y2 => hF q (by omega) (by omega))
theorem Fr2.vg {M M' : mm_M} {n : Nat} (hn : n < eN E) (hF : Fr2 M M' (v + 2) (v + 337 + 15 * n)) : Fr M M' v (vgN E) := fun q hq => hF q (by simp only [vgN] at hq; omega) (by simp only [vgN] at hq; omega)
theorem c_isNode {M : mm_M} {k : Int32} (h : VgP G M ca cm g E v nd post y) : CT l G Y_VG_isNode ds_VG_isNode (rm 1) [.ref v, .int k] M sz (fun r M' sz' => (∃ c : Bool, r = some (.int (bI c)) ∧ (c = true ↔ ∃ n, n < eN E ∧ k = nI n)) ∧ M' = M ∧ sz' = sz) := by
  obtain ⟨h0, ⟨f, h1, h1b⟩, h2, -⟩ := id h
  have hN7 := h2.2.2.2.2.1
  refine CT.of (by decide) (Nat.le_of_ble_eq_true rfl) ?_
  refine rw_iload_n d_VG_isNode_0 rfl ?_
  refine rw_if_lt (tgt := 17) d_VG_isNode_1 (by decide) (fun q => ?_) (fun q => ?_)
  · refine rw_iconst (v := 0) d_VG_isNode_17 (by decide) ?_
    refine rw_zret d_VG_isNode_18 rfl rfl ⟨⟨false, rfl, (fun z => by cases z), fun ⟨n, hn, z⟩ => ?_⟩, rfl, rfl⟩
    rw [z] at q
    exact absurd q (nI_pos (by omega))
  · refine rw_iload_n d_VG_isNode_4 rfl ?_
    refine rw_aload_n d_VG_isNode_5 rfl (by first | exact mm_ref_r _ | exact mm_ref_n | exact mm_ref_o _) ?_
    refine rw_get d_VG_isNode_6 fF_VG_54 h0 rfl ?_
    refine rw_alen d_VG_isNode_9 h1 (by decide) rfl ?_
    obtain ⟨n, hn, rfl⟩ := nI_of q
    by_cases c : n < eN E
    · refine rw_icmp_ge_f (tgt := 17) d_VG_isNode_10 (by decide) (nI_ge (a := n) (b := eN E) c (by omega)) ?_
      refine rw_iconst (v := 1) d_VG_isNode_13 (by decide) ?_
      refine rw_goto (tgt := 18) d_VG_isNode_14 (by decide) ?_
      exact rw_zret d_VG_isNode_18 rfl rfl ⟨⟨true, rfl, fun _ => ⟨n, c, rfl⟩, fun _ => rfl⟩, rfl, rfl⟩
    · refine rw_icmp_ge_t (tgt := 17) d_VG_isNode_10 (by decide) (nI_le (a := eN E) (b := n) (by omega) hn) ?_
      refine rw_iconst (v := 0) d_VG_isNode_17 (by decide) ?_
      refine rw_zret d_VG_isNode_18 rfl rfl ⟨⟨false, rfl, (fun z => by cases z), fun ⟨n2, hn2, z⟩ => ?_⟩, rfl, rfl⟩
      rw [nI_eq hn (by omega)] at z
      omega
def VgQ (G : mm_G) (M : mm_M) (sz : Nat) (ca : Nat → Nat) (cm : Nat → pCm) (g : Nat) (E : pE) (v : Nat) (s : (Nat → pN) × List pMsg × pN) : Option Value → mm_M → Nat → Prop := fun r M' sz' => r = none ∧ sz' = sz ∧ VgP G M' ca cm g E v s.1 s.2.1 s.2.2 ∧ Fr M M' v (vgN E)
theorem c_arrive {M : mm_M} {j : Nat} {m : pMsg} (h : VgP G M ca cm g E v nd post y) (hj : j < 64) (hm : MsP G M ca cm g E (v + 2 + 3 + 5 * j) m) (hok : mOk E m) : CT l G Y_VG_arrive ds_VG_arrive (rm 6) [.ref v, .ref (v + 2 + 3 + 5 * j)] M sz (VgQ G M sz ca cm g E v (pArr E nd post y m)) := by
  obtain ⟨h0, ⟨f, h1, h1b⟩, h2, h3, h4, h5, h6, h7, h8, h9, h10⟩ := id h
  obtain ⟨hP, hA, hpl, hlt, hN7, hCN, -, hg, hM64, -⟩ := id h2
  obtain ⟨k, fr, t, e, u, w⟩ := m
  obtain ⟨o1, o2, o3, o4, o5, o6⟩ := id hok
  simp only at o1 o2 o3 o4 o5 o6
  obtain ⟨s, en, dn, nu, an, cv, d0, b0, w1, w2, w3, w4, w5, w6, w7, w8, w9⟩ := id hm
  simp only at w1 w4 w5 w6 w7 w8 w9
  obtain ⟨fk, k0, k1, k2⟩ := id h3
  obtain ⟨cs, arr, an2, d1, d2, d3, d4, e1, e2, e3, e4, e5, e6⟩ := id h4
  refine CT.of (by decide) (Nat.le_of_ble_eq_true rfl) ?_
  refine rw_aload_n d_VG_arrive_0 rfl (by first | exact mm_ref_r _ | exact mm_ref_n | exact mm_ref_o _) ?_
  refine rw_get d_VG_arrive_1 fF_VG_195 w1 rfl ?_
  refine rw_kind (i := 1) (by decide) fS_VG_201 d_VG_arrive_4 ?_
  by_cases c1 : k = 1
  · subst c1
    have hfr := o3 (by omega)
    refine rw_acmp_ne_f (tgt := 21) d_VG_arrive_7 (by decide) ?_
    refine rw_aload_n d_VG_arrive_10 rfl (by first | exact mm_ref_r _ | exact mm_ref_n | exact mm_ref_o _) ?_
    refine rw_get d_VG_arrive_11 fF_VG_35 h0 rfl ?_
    refine rw_aload_n d_VG_arrive_14 rfl (by first | exact mm_ref_r _ | exact mm_ref_n | exact mm_ref_o _) ?_
    refine rw_callV (kc := 0) (ks := 0) (rest := []) d_VG_arrive_15 (c_kHear hN7 hfr o2 h8 hpl h3 w1) mW_MapKeeper_hear mL_VG_206 mI_MapKeeper_hear mE_MapKeeper_hear ⟨by decide, by decide⟩ k0 rfl rfl rfl rfl (Nat.le_of_ble_eq_true rfl) (fun r M1 sz1 hq => ?_)
    sorry
  · sorry
end VG
