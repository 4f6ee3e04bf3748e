/-! Node: pictures; flush, fail, hearMap, tellAnswer, hearCommand. -/
abbrev ndO (a n pl p : Nat) (x : pN) : va_E := .inr (9, [.int (nI n), .ref pl, .ref p, .ref (a + 1), .ref (a + 6), .ref (a + 11), .int (nI (x 0)), .int (nI (x 1)), .int (nI (x 2)), .int (nI (x 3))])
def NdP (M : mm_M) (ca : Nat → Nat) (cm : Nat → pCm) (g : Nat) (E : pE) (pl p a n : Nat) (x : pN) : Prop := M a = some (ndO a n pl p x) ∧ MeP M ca cm g E (a + 1) (x 4) (x 5) (x 6) ∧ MeP M ca cm g E (a + 6) (x 7) (x 8) (x 9) ∧ RpP M (a + 11) (eN E) x ∧ pBd x
theorem NdP.kept {M M' : mm_M} {ca : Nat → Nat} {cm : Nat → pCm} {g : Nat} {E : pE} {pl p a n : Nat} {x : pN} (h : NdP M ca cm g E pl p a n x) (hq : ∀ q, a ≤ q → q < a + 15 → M' q = M q) : NdP M' ca cm g E pl p a n x :=
  ⟨(hq _ (by omega) (by omega)).trans h.1, h.2.1.kept (fun q y1 y2 => hq q (by omega) (by omega)), h.2.2.1.kept (fun q y1 y2 => hq q (by omega) (by omega)), h.2.2.2.1.kept (fun q y1 y2 => hq q (by omega) (by omega)), h.2.2.2.2⟩
theorem MeP.apart {M : mm_M} {ca : Nat → Nat} {cm : Nat → pCm} {g : Nat} {E : pE} {a ep d b i : Nat} (h : MeP M ca cm g E a ep d b) (hA : CmA M ca cm g) (hi : i < g) : ca i < a ∨ a + 5 ≤ ca i := by
  obtain ⟨h1, hh, v, an, lg, hr, -⟩ := h
  have e := (hA i hi).2
  rcases hA.apart hr hi with z | z
  · by_cases q : ca i = a
    · rw [q, h1] at e
      cases e
    · omega
  · omega
theorem NdP.apart {M : mm_M} {ca : Nat → Nat} {cm : Nat → pCm} {g : Nat} {E : pE} {pl p a n i : Nat} {x : pN} (h : NdP M ca cm g E pl p a n x) (hA : CmA M ca cm g) (hi : i < g) : ca i < a ∨ a + 15 ≤ ca i := by
  obtain ⟨h1, h2, h3, ⟨hd, en, dn, ⟨r0, r1, r2, r3⟩, -⟩, -⟩ := h
  have e := (hA i hi).2
  have z1 := h2.apart hA hi
  have z2 := h3.apart hA hi
  have q0 : ca i ≠ a := fun q => by rw [q, h1] at e; cases e
  have q1 : ca i ≠ a + 11 := fun q => by rw [q, r0] at e; cases e
  have q2 : ca i ≠ a + 11 + 1 := fun q => by rw [q, r1] at e; cases e
  have q3 : ca i ≠ a + 11 + 2 := fun q => by rw [q, r2] at e; cases e
  have q4 : ca i ≠ a + 11 + 3 := fun q => by rw [q, r3] at e; cases e
  omega
/-- what a node lives in: post, commands, plan -/
def SyP (G : mm_G) (M : mm_M) (ca : Nat → Nat) (cm : Nat → pCm) (g : Nat) (E : pE) (pl p : Nat) (post : List pMsg) : Prop := PsP G M ca cm g E p post ∧ CmA M ca cm g ∧ M pl = some (plO (eN E) (eC E)) ∧ pl < p ∧ eN E < 7 ∧ eC E ≤ eN E ∧ eC E ≤ 3 ∧ g ≤ 512 ∧ (∀ e, eM E e < 64) ∧ ∀ e, E.2.2 e < 64
theorem SyP.sent {G : mm_G} {M M' : mm_M} {ca : Nat → Nat} {cm : Nat → pCm} {g : Nat} {E : pE} {pl p : Nat} {post post' : List pMsg} (h : SyP G M ca cm g E pl p post) (hP : PsP G M' ca cm g E p post') (hF : Fr M M' p 328) : SyP G M' ca cm g E pl p post' :=
  ⟨hP, h.2.1.post h.1 hF, (hF _ (by have := h.2.2.2.1; omega)).trans h.2.2.1, h.2.2.2⟩
theorem SyP.node {G : mm_G} {M M' : mm_M} {ca : Nat → Nat} {cm : Nat → pCm} {g : Nat} {E : pE} {pl p a n : Nat} {x : pN} {post : List pMsg} (h : SyP G M ca cm g E pl p post) (hn : NdP M ca cm g E pl p a n x) (hpa : p + 328 ≤ a) (hF : Fr M M' a 15) : SyP G M' ca cm g E pl p post :=
  ⟨h.1.kept (fun q y1 y2 => hF q (by omega)), h.2.1.kept (fun i hi => hF _ (hn.apart h.2.1 hi)), (hF _ (by have := h.2.2.2.1; omega)).trans h.2.2.1, h.2.2.2⟩
theorem eL_lt (E : pE) (e : Nat) (h : eN E < 7) : eL E e = 99 ∨ eL E e < eN E := pGr_lt _ _ (by omega)
/-- nothing changed but the post and the node -/
def Fr2 (M M' : mm_M) (p a : Nat) : Prop := ∀ q, q < p ∨ p + 328 ≤ q → q < a ∨ a + 15 ≤ q → M' q = M q
theorem Fr2.of1 {M M' : mm_M} {p a : Nat} (h : Fr M M' a 15) : Fr2 M M' p a := fun q _ y => h q y
theorem Fr2.of0 {M M' : mm_M} {p a : Nat} (h : Fr M M' p 328) : Fr2 M M' p a := fun q y _ => h q y
theorem Fr2.trans {M M' M2 : mm_M} {p a : Nat} (h : Fr2 M M' p a) (k : Fr2 M' M2 p a) : Fr2 M M2 p a := fun q y z => (k q y z).trans (h q y z)
theorem Fr.wider {M M' : mm_M} {a n b m : Nat} (h : Fr M M' a n) (h1 : b ≤ a) (h2 : a + n ≤ b + m) : Fr M M' b m := fun q hq => h q (by omega)
def NdQ (G : mm_G) (M : mm_M) (sz : Nat) (ca : Nat → Nat) (cm : Nat → pCm) (g : Nat) (E : pE) (pl p a n : Nat) (x : pN) (post : List pMsg) : Option Value → mm_M → Nat → Prop := fun r M' sz' => r = none ∧ sz' = sz ∧ NdP M' ca cm g E pl p a n x ∧ SyP G M' ca cm g E pl p post ∧ Fr2 M M' p a
theorem pBd.flush {x : pN} (h : pBd x) : pBd (pFlush x) := by
  refine ⟨fun j => ?_, fun j hj => ?_⟩
  · unfold pFlush
    split
    · simp only
      (repeat' split) <;> first | exact h.1 _ | omega
    · exact h.1 j
  · unfold pFlush
    split
    · simp only
      (repeat' split) <;> first | omega | exact h.2 j hj
    · exact h.2 j hj
theorem pBd.clear {x : pN} (h : pBd x) : pBd (pClear x) := by
  refine ⟨fun j => ?_, fun j hj => ?_⟩
  · unfold pClear
    split
    · omega
    · exact h.1 j
  · unfold pClear
    split
    · omega
    · exact h.2 j hj
theorem pBd.flag {x : pN} (h : pBd x) {f v : Nat} (hv : v ≤ 1) : pBd (pu x f v) := by
  refine ⟨fun j => ?_, fun j hj => ?_⟩
  · unfold pu
    split
    · omega
    · exact h.1 j
  · unfold pu
    split
    · omega
    · exact h.2 j hj
section NODE1
variable {l : Launch} {G : mm_G} {sz : Nat} {ca : Nat → Nat} {cm : Nat → pCm} {g : Nat} {E : pE} {pl p a n : Nat} {x : pN} {post : List pMsg}
theorem CpP.obj {f : Nat} {M : mm_M} {ca : Nat → Nat} {cm : Nat → pCm} {g a d b : Nat} (h : CpP f M ca cm g a d b) : ∃ hh, M a = some (cpO a d b hh) := by
  obtain ⟨hh, v, an, lg, hr, -⟩ := h
  exact ⟨hh, hr.1⟩
theorem c_flush {M : mm_M} (hN : NdP M ca cm g E pl p a n x) (hS : SyP G M ca cm g E pl p post) (hpa : p + 328 ≤ a) : CT l G Y_Node_flush ds_Node_flush (rm 3) [.ref a] M sz (NdQ G M sz ca cm g E pl p a n (pFlush x) post) := by
  obtain ⟨h0, h1, h2, h3, h4⟩ := id hN
  have hb := h4.2 1 (by omega)
  refine CT.of (by decide) (Nat.le_of_ble_eq_true rfl) ?_
  refine rw_aload_n d_Node_flush_0 rfl (by first | exact mm_ref_r _ | exact mm_ref_n | exact mm_ref_o _) ?_
  refine rw_get d_Node_flush_1 fF_Node_76 h0 rfl ?_
  rcases (show x 1 = 0 ∨ x 1 = 1 by omega) with q | q
  · rw [q]
    refine rw_if_eq_t (tgt := 23) d_Node_flush_4 (by decide) (rfl) ?_
    have e : pFlush x = x := by rw [pFlush, if_neg (by omega)]
    rw [e]
    exact rw_vret d_Node_flush_23 rfl ⟨rfl, rfl, hN, hS, fun _ _ _ => rfl⟩
  · rw [q]
    refine rw_if_eq_f (tgt := 23) d_Node_flush_4 (by decide) (by decide) ?_
    refine rw_aload_n d_Node_flush_7 rfl (by first | exact mm_ref_r _ | exact mm_ref_n | exact mm_ref_o _) ?_
    refine rw_get d_Node_flush_8 fF_Node_18 h0 rfl ?_
    refine rw_aload_n d_Node_flush_11 rfl (by first | exact mm_ref_r _ | exact mm_ref_n | exact mm_ref_o _) ?_
    refine rw_get d_Node_flush_12 fF_Node_12 h0 rfl ?_
    have hne : ∀ i, i < g → ca i ≠ a + 6 := fun i hi => by
      have := h2.apart hS.2.1 hi
      omega
    refine rw_callV (kc := 0) (ks := 0) (rest := []) d_Node_flush_15 (c_become hS.2.1 h2.1 (h2.2.le (by omega)) h1 (by omega) hne) mW_Memory_become mL_Node_66 mI_Memory_become mE_Memory_become ⟨by decide, by decide⟩ h2.1 rfl rfl rfl rfl (Nat.le_of_ble_eq_true rfl) (fun r M1 sz1 hq => ?_)
    obtain ⟨rfl, rfl, q1, q2⟩ := hq
    have k0 := (q2 a (by omega)).trans h0
    refine rw_stk (st' := []) rfl ?_
    refine rw_aload_n d_Node_flush_18 rfl (by first | exact mm_ref_r _ | exact mm_ref_n | exact mm_ref_o _) ?_
    refine rw_iconst (v := 0) d_Node_flush_19 (by decide) ?_
    refine rw_put d_Node_flush_20 (fP_Node_76 _) k0 (Nat.le_of_ble_eq_true rfl) (by first | rfl | assumption | decide) (by first | rfl | decide) ?_
    have e : pFlush x = fun j => if j = 7 then x 4 else if j = 8 then x 5 else if j = 9 then x 6 else if j = 1 then 0 else x j := by rw [pFlush, if_pos q]
    have hF : Fr M (mup M1 a (.inr (9, [.int (nI n), .ref pl, .ref p, .ref (a + 1), .ref (a + 6), .ref (a + 11), .int (nI (x 0)), .int 0, .int (nI (x 2)), .int (nI (x 3))]))) a 15 := Fr.mup (q2.wider (by omega) (by omega)) (by omega) (by omega)
    refine rw_vret d_Node_flush_23 rfl ⟨rfl, rfl, ⟨?_, ?_, ?_, ?_, h4.flush⟩, hS.node hN hpa hF, Fr2.of1 hF⟩
    · rw [mup_self, e]
      rfl
    · rw [e]
      exact (h1.kept (fun y y1 y2 => q2 y (by omega))).kept (fun y y1 y2 => mup_ne _ _ (by omega))
    · rw [e]
      exact q1.kept (fun y y1 y2 => mup_ne _ _ (by omega))
    · rw [e]
      exact ((h3.kept (M' := M1) (fun y y1 y2 => q2 y (by omega))).kept (fun y y1 y2 => mup_ne _ _ (by omega))).same (by simp) (by simp) (fun m hm => ⟨by rw [if_neg (by omega), if_neg (by omega), if_neg (by omega), if_neg (by omega)], by rw [if_neg (by omega), if_neg (by omega), if_neg (by omega), if_neg (by omega)], by rw [if_neg (by omega), if_neg (by omega), if_neg (by omega), if_neg (by omega)]⟩)
/-- one flag of the node's own object is set -/
theorem NdP.flag {M : mm_M} (h : NdP M ca cm g E pl p a n x) {f v : Nat} (hf : f < 4) (hv : v ≤ 1) {e : va_E} (he : e = ndO a n pl p (pu x f v)) : NdP (mup M a e) ca cm g E pl p a n (pu x f v) := by
  obtain ⟨h0, h1, h2, h3, h4⟩ := h
  have hh : ∀ j, 4 ≤ j → pu x f v j = x j := fun j hj => pu_ne x v (by omega)
  refine ⟨by rw [mup_self, he], ?_, ?_, ?_, h4.flag hv⟩
  · rw [hh 4 (by omega), hh 5 (by omega), hh 6 (by omega)]
    exact h1.kept (fun y y1 y2 => mup_ne _ _ (by omega))
  · rw [hh 7 (by omega), hh 8 (by omega), hh 9 (by omega)]
    exact h2.kept (fun y y1 y2 => mup_ne _ _ (by omega))
  · exact (h3.kept (fun y y1 y2 => mup_ne _ _ (by omega))).same (hh 10 (by omega)) (hh 11 (by omega)) (fun m hm => ⟨hh _ (by omega), hh _ (by omega), hh _ (by omega)⟩)
theorem NdP.eqv {M : mm_M} {y : pN} (h : NdP M ca cm g E pl p a n x) (e : y = x) : NdP M ca cm g E pl p a n y := e ▸ h
/-- a node sends the answer of command i -/
theorem c_tellAnswer {M : mm_M} {i : Nat} (hN : NdP M ca cm g E pl p a n x) (hS : SyP G M ca cm g E pl p post) (hpa : p + 328 ≤ a) (hn : n < eN E) (hi : i < x 5) (hi2 : x 5 ≤ i + 8) : CT l G Y_Node_tellAnswer ds_Node_tellAnswer (rm 3) [.ref a, .int (nI i)] M sz (NdQ G M sz ca cm g E pl p a n x (pSend post [pAns n x i])) := by
  obtain ⟨h0, h1, h2, h3, h4⟩ := id hN
  obtain ⟨hP, hA, hpl, hlt, hN7, -⟩ := id hS
  obtain ⟨hh, v, an, lg, ⟨r0, r1, r2, r3⟩, c1, c2, c3, c4, c5⟩ := id h1.2
  have egn : nI n = gI n := by rw [gI, if_neg (by omega)]
  refine CT.of (by decide) (Nat.le_of_ble_eq_true rfl) ?_
  refine rw_aload_n d_Node_tellAnswer_0 rfl (by first | exact mm_ref_r _ | exact mm_ref_n | exact mm_ref_o _) ?_
  refine rw_get d_Node_tellAnswer_1 fF_Node_33 h0 rfl ?_
  refine rw_kind (i := 3) (by decide) fS_Node_185 d_Node_tellAnswer_4 ?_
  refine rw_aload_n d_Node_tellAnswer_7 rfl (by first | exact mm_ref_r _ | exact mm_ref_n | exact mm_ref_o _) ?_
  refine rw_get d_Node_tellAnswer_8 fF_Node_25 h0 rfl ?_
  refine rw_iconst (v := (-1)) d_Node_tellAnswer_11 (by decide) ?_
  refine rw_aload_n d_Node_tellAnswer_12 rfl (by first | exact mm_ref_r _ | exact mm_ref_n | exact mm_ref_o _) ?_
  refine rw_get d_Node_tellAnswer_13 fF_Node_12 h0 rfl ?_
  refine rw_get d_Node_tellAnswer_16 fF_Node_103 h1.1 rfl ?_
  refine rw_stk (st' := [.int (nI (x 4)), .int (gI 99), .int (gI n), .ref (gad G 3), .ref p]) (by rw [← egn]; rfl) ?_
  refine rw_callV (kc := 0) (ks := 0) (rest := []) d_Node_tellAnswer_19 (c_send (k := 3) (f := n) (t := 99) (e := x 4) hP) mW_Post_send mL_Node_136 mI_Post_send mE_Post_send ⟨by decide, by decide⟩ hP.choose_spec.choose_spec.choose_spec.1 rfl rfl rfl rfl (Nat.le_of_ble_eq_true rfl) (fun r M2 sz2 hq => ?_)
  obtain ⟨rfl, q1, j, hj, rfl, ⟨s, en, dn, nu, a2, cv, d, b, w1, w2, w3⟩, q2⟩ := hq
  refine rw_stk (st' := [.ref (p + 3 + 5 * j)]) rfl ?_
  refine rw_astore_n d_Node_tellAnswer_22 (by decide) (by first | exact mm_ref_r _ | exact mm_ref_n | exact mm_ref_o _) rfl ?_
  refine rw_aload_n d_Node_tellAnswer_23 rfl (by first | exact mm_ref_r _ | exact mm_ref_n | exact mm_ref_o _) ?_
  refine rw_iload_n d_Node_tellAnswer_24 rfl ?_
  refine rw_put d_Node_tellAnswer_25 (fP_Node_188 _) w1 (Nat.le_of_ble_eq_true rfl) (by first | rfl | assumption | decide) (by first | rfl | decide) ?_
  refine rw_aload_n d_Node_tellAnswer_28 rfl (by first | exact mm_ref_r _ | exact mm_ref_n | exact mm_ref_o _) ?_
  refine rw_aload_n d_Node_tellAnswer_29 rfl (by first | exact mm_ref_r _ | exact mm_ref_n | exact mm_ref_o _) ?_
  refine rw_get d_Node_tellAnswer_30 fF_Node_12 (mup_get (by omega) ((q1 a (by omega)).trans h0)) rfl ?_
  refine rw_get d_Node_tellAnswer_33 fF_Node_146 (mup_get (by omega) ((q1 (a + 1) (by omega)).trans h1.1)) rfl ?_
  refine rw_get d_Node_tellAnswer_36 fF_Node_189 (mup_get (by omega) ((q1 (a + 1 + 1) (by omega)).trans r0)) rfl ?_
  refine rw_iload_n d_Node_tellAnswer_39 rfl ?_
  refine rw_bipush (v := 8) d_Node_tellAnswer_40 (by decide) ?_
  refine rw_irem d_Node_tellAnswer_42 (by decide) ?_
  rw [nI_rem8 (by omega)]
  refine rw_iald d_Node_tellAnswer_43 (mup_get (by omega) ((q1 (a + 1 + 1 + 2) (by omega)).trans r2)) (vp_in8 _) ?_
  rw [nI_c8, (c5 (by omega)).2.2 i hi hi2]
  refine rw_put d_Node_tellAnswer_44 (fP_Node_192 _) (mup_self _ _ _) (Nat.le_of_ble_eq_true rfl) (by first | rfl | assumption | decide) (by first | rfl | decide) ?_
  have hF : ∀ e1 e2, Fr M (mup (mup M2 (p + 3 + 5 * j) e1) (p + 3 + 5 * j) e2) p 328 := fun e1 e2 => Fr.mup (Fr.mup q1 (by omega) (by omega)) (by omega) (by omega)
  refine rw_vret d_Node_tellAnswer_47 rfl ⟨rfl, rfl, hN.kept (fun y y1 y2 => hF _ _ y (by omega)), hS.sent ?_ (hF _ _), Fr2.of0 (hF _ _)⟩
  exact q2 _ (3, n, 99, x 4, i, 0) (Fr.mup (Fr.mup Fr.rf (by omega) (by omega)) (by omega) (by omega)) ⟨s, en, dn, nI i, tAns cm i, cv, d, b, by rw [mup_self]; rfl, w2, (w3.kept (fun y y1 y2 => mup_ne _ _ (by omega))).kept (fun y y1 y2 => mup_ne _ _ (by omega)), (fun z => by cases z), (fun z => by cases z), fun _ => ⟨rfl, rfl⟩, (fun z => by cases z), (fun z => by cases z), (fun z => by cases z)⟩
end NODE1
