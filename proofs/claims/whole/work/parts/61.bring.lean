/-! VersionGroup: bring, drop, bringAll, passOneTick. -/
abbrev pSt : Type := (Nat → pN) × List pMsg × pN
/-- the works of the nodes below k -/
def pWk (E : pE) (nd : Nat → pN) : Nat → List pMsg
  | 0 => []
  | k + 1 => pWk E nd k ++ (pWork E k (nd k)).2
def pWn (E : pE) (nd : Nat → pN) (k : Nat) : Nat → pN := fun n => if n < k then (pWork E n (nd n)).1 else nd n
def pTick (E : pE) (s : pSt) : pSt := (pWn E s.1 (eN E), pSend (pSend (pSend s.2.1 (pProc (s.2.2 0) (fun n => s.2.2 (20 + n)) (eN E))) (pReqs (eL E (s.2.2 0)) (s.2.2 0) (fun j => s.2.2 (40 + j)) (s.2.2 2) (s.2.2 1 - s.2.2 2))) (pWk E s.1 (eN E)), s.2.2)
/-- a message arrives and is taken away -/
def pGo (E : pE) (s : pSt) (i : Nat) (m : pMsg) : pSt := ((pArr E s.1 s.2.1 s.2.2 m).1, (pArr E s.1 s.2.1 s.2.2 m).2.1.eraseIdx i, (pArr E s.1 s.2.1 s.2.2 m).2.2)
def pBA (E : pE) : Nat → pSt → pSt
  | 0, s => s
  | f + 1, s => match s.2.1 with
    | [] => s
    | m :: _ => pBA E f (pGo E s 0 m)
/-- J holds the machine's words, and stays -/
def Jc (E : pE) (J : pSt → Prop) : Prop := (∀ s, J s → (∀ m ∈ s.2.1, mOk E m) ∧ ∀ n, n < eN E → ∀ m, m < eN E → s.1 n (30 + m) < 1000000) ∧ (∀ (s : pSt) (i : Nat) (m : pMsg), J s → s.2.1[i]? = some m → J (pArr E s.1 s.2.1 s.2.2 m)) ∧ (∀ (s : pSt) (i : Nat), J s → J (s.1, s.2.1.eraseIdx i, s.2.2)) ∧ ∀ s, J s → J (pTick E s)
theorem pSend_len {post a : List pMsg} (h : post.length ≤ 64) : post.length ≤ (pSend post a).length := by
  unfold pSend
  rw [List.length_take, List.length_append]
  omega
theorem pArr_len {E : pE} {nd : Nat → pN} {post : List pMsg} {y : pN} {m : pMsg} (h : post.length ≤ 64) : post.length ≤ (pArr E nd post y m).2.1.length := by
  unfold pArr
  split
  · exact Nat.le_refl _
  · split
    · exact Nat.le_refl _
    · split
      · exact pSend_len h
      · exact Nat.le_refl _
section BRING
variable {l : Launch} {G : mm_G} {sz : Nat} {ca : Nat → Nat} {cm : Nat → pCm} {g : Nat} {E : pE} {v : Nat} {J : pSt → Prop}
theorem VgP.sent {M M' : mm_M} {nd : Nat → pN} {post post' : List pMsg} {y : pN} (h : VgP G M ca cm g E v nd post y) (hP : PsP G M' ca cm g E (v + 2) post') (hF : Fr M M' (v + 2) 328) : VgP G M' ca cm g E v nd post' y := by
  obtain ⟨h0, ⟨f, h1, h1b⟩, h2, h3, h4, h5, h6, h7⟩ := h
  exact ⟨(hF _ (by omega)).trans h0, ⟨f, (hF _ (by omega)).trans h1, h1b⟩, h2.sent hP hF, h3.kept (fun q y1 y2 => hF q (by omega)), h4.kept (fun q y1 y2 => hF q (by omega)), h5, fun n hn => (h6 n hn).kept (fun q y1 y2 => hF q (by omega)), h7⟩
theorem VgP.len {M : mm_M} {nd : Nat → pN} {post : List pMsg} {y : pN} (h : VgP G M ca cm g E v nd post y) : post.length ≤ 64 := h.2.2.1.1.len
theorem VgP.post {M : mm_M} {nd : Nat → pN} {post : List pMsg} {y : pN} (h : VgP G M ca cm g E v nd post y) : M (v + 2) = some (.inr (4, [.ref (v + 2 + 1), .ref (v + 2 + 2), .int (nI post.length)])) := by
  obtain ⟨sl, f, ord, z, -⟩ := h.2.2.1.1
  exact z
/-- what a call leaves of which J alone is known -/
def VjQ (G : mm_G) (M : mm_M) (sz : Nat) (ca : Nat → Nat) (cm : Nat → pCm) (g : Nat) (E : pE) (v : Nat) (J : pSt → Prop) : Option Value → mm_M → Nat → Prop := fun r M' sz' => r = none ∧ sz' = sz ∧ (∃ s : pSt, J s ∧ VgP G M' ca cm g E v s.1 s.2.1 s.2.2) ∧ Fr M M' v (vgN E)
theorem Fr.vg {M M' : mm_M} (h : Fr M M' (v + 2) 328) : Fr M M' v (vgN E) := h.wider (by omega) (by simp only [vgN]; omega)
set_option maxRecDepth 100000 in
theorem bring_loop {M : mm_M} {i t : Nat} (hJ : Jc E J) (ht : t < 100) : ∀ (m k : Nat) (M1 : mm_M) (s : pSt), m + k = t → J s → VgP G M1 ca cm g E v s.1 s.2.1 s.2.2 → i < s.2.1.length → Fr M M1 v (vgN E) →
    RW l G Y_VG_bring (rm 7) (mm_Z G (rm 7) (VjQ G M sz ca cm g E v J)) 0 0 26 [(0, .ref v), (2, .int (nI t)), (3, .int (nI i)), (4, .int (nI k))] [] M1 sz := by
  intro m
  induction m with
  | zero =>
    intro k M1 s hk hs h hi hF
    refine rw_iload d_VG_bring_26 rfl ?_
    refine rw_iload_n d_VG_bring_28 rfl ?_
    refine rw_icmp_ge_t (tgt := 50) d_VG_bring_29 (by decide) (nI_le (by omega) (by omega)) ?_
    refine rw_aload_n d_VG_bring_50 rfl (by first | exact mm_ref_r _ | exact mm_ref_n | exact mm_ref_o _) ?_
    refine rw_get d_VG_bring_51 fF_VG_24 h.1 rfl ?_
    refine rw_iload_n d_VG_bring_54 rfl ?_
    refine rw_callV (kc := 0) (ks := 0) (rest := []) d_VG_bring_55 (c_remove h.2.2.1.1 hi) mW_Post_remove mL_VG_191 mI_Post_remove mE_Post_remove ⟨by decide, by decide⟩ h.post rfl rfl rfl rfl (Nat.le_of_ble_eq_true rfl) (fun r M2 sz2 hq => ?_)
    obtain ⟨rfl, rfl, q1, q2⟩ := hq
    refine rw_stk (st' := []) rfl ?_
    exact rw_vret d_VG_bring_58 rfl ⟨rfl, rfl, ⟨(s.1, s.2.1.eraseIdx i, s.2.2), hJ.2.2.1 s i hs, h.sent q1 q2⟩, hF.trans (Fr.vg q2)⟩
  | succ m ih =>
    intro k M1 s hk hs h hi hF
    have hm : s.2.1[i]? = some s.2.1[i] := List.getElem?_eq_getElem hi
    refine rw_iload d_VG_bring_26 rfl ?_
    refine rw_iload_n d_VG_bring_28 rfl ?_
    refine rw_icmp_ge_f (tgt := 50) d_VG_bring_29 (by decide) (nI_ge (by omega) (by omega)) ?_
    refine rw_aload_n d_VG_bring_32 rfl (by first | exact mm_ref_r _ | exact mm_ref_n | exact mm_ref_o _) ?_
    refine rw_aload_n d_VG_bring_33 rfl (by first | exact mm_ref_r _ | exact mm_ref_n | exact mm_ref_o _) ?_
    refine rw_get d_VG_bring_34 fF_VG_24 h.1 rfl ?_
    refine rw_iload_n d_VG_bring_37 rfl ?_
    refine rw_callV (kc := 0) (ks := 0) (rest := [.ref v]) d_VG_bring_38 (c_look h.2.2.1.1 hm) mW_Post_look mL_VG_183 mI_Post_look mE_Post_look ⟨by decide, by decide⟩ h.post rfl rfl rfl rfl (Nat.le_of_ble_eq_true rfl) (fun r M2 sz2 hq => ?_)
    obtain ⟨rfl, rfl, j, hj, rfl, q1⟩ := hq
    refine rw_stk (st' := [.ref (v + 2 + 3 + 5 * j), .ref v]) rfl ?_
    refine rw_callV (kc := 0) (ks := 0) (rest := []) d_VG_bring_41 (c_arrive h hj q1 ((hJ.1 s hs).1 _ (List.getElem_mem hi))) mW_VG_arrive mL_VG_187 mI_VG_arrive mE_VG_arrive ⟨by decide, by decide⟩ h.1 rfl rfl rfl rfl (Nat.le_of_ble_eq_true rfl) (fun r M3 sz3 hq => ?_)
    obtain ⟨rfl, rfl, q3, q4⟩ := hq
    refine rw_stk (st' := []) rfl ?_
    refine rw_iinc d_VG_bring_44 (by decide) rfl rfl rfl ?_
    refine rw_lv (lv' := [(0, .ref v), (2, .int (nI t)), (3, .int (nI i)), (4, .int (nI (k + 1)))]) (by rw [← nI_1]; intro q hq; simp at hq; rcases hq with rfl | rfl | rfl | rfl <;> rfl) ?_
    refine rw_goto (tgt := 26) d_VG_bring_47 (by decide) ?_
    exact ih (k + 1) M3 (pArr E s.1 s.2.1 s.2.2 s.2.1[i]) (by omega) (hJ.2.1 s i _ hs hm) q3 (Nat.lt_of_lt_of_le hi (pArr_len h.len)) (hF.trans q4)
set_option maxRecDepth 100000 in
theorem c_bring {M : mm_M} {s : pSt} {k : Int32} {t : Nat} (hJ : Jc E J) (ht : t < 100) (hs : J s) (h : VgP G M ca cm g E v s.1 s.2.1 s.2.2) : CT l G Y_VG_bring ds_VG_bring (rm 7) [.ref v, .int k, .int (nI t)] M sz (VjQ G M sz ca cm g E v J) := by
  have hl := h.len
  refine CT.of (by decide) (Nat.le_of_ble_eq_true rfl) ?_
  refine rw_aload_n d_VG_bring_0 rfl (by first | exact mm_ref_r _ | exact mm_ref_n | exact mm_ref_o _) ?_
  refine rw_get d_VG_bring_1 fF_VG_24 h.1 rfl ?_
  refine rw_get d_VG_bring_4 fF_VG_125 h.post rfl ?_
  by_cases c : s.2.1.length = 0
  · rw [c]
    refine rw_if_ne_f (tgt := 11) d_VG_bring_7 (by decide) (by decide) ?_
    exact rw_vret d_VG_bring_10 rfl ⟨rfl, rfl, ⟨s, hs, h⟩, Fr.rf⟩
  · refine rw_if_ne_t (tgt := 11) d_VG_bring_7 (by decide) (nI_ne0 (by omega) (by omega)) ?_
    refine rw_iload_n d_VG_bring_11 rfl ?_
    refine rw_aload_n d_VG_bring_12 rfl (by first | exact mm_ref_r _ | exact mm_ref_n | exact mm_ref_o _) ?_
    refine rw_get d_VG_bring_13 fF_VG_24 h.1 rfl ?_
    refine rw_get d_VG_bring_16 fF_VG_125 h.post rfl ?_
    refine rw_callS (kc := 0) (ks := 0) (rest := []) d_VG_bring_19 (c_floorMod (x := k) (n := s.2.1.length) (by omega) (by omega)) mW_Math_floorMod mL_VG_180 mS_Math_floorMod ⟨by decide, by decide⟩ rfl rfl (Nat.le_of_ble_eq_true rfl) (fun r M1 sz1 hq => ?_)
    obtain ⟨⟨i, hi, rfl⟩, rfl, rfl⟩ := hq
    refine rw_stk (st' := [.int (nI i)]) rfl ?_
    refine rw_istore_n d_VG_bring_22 (by decide) rfl ?_
    refine rw_iconst (v := 0) d_VG_bring_23 (by decide) ?_
    refine rw_istore d_VG_bring_24 (by decide) rfl ?_
    refine rw_lv (lv' := [(0, .ref v), (2, .int (nI t)), (3, .int (nI i)), (4, .int (nI 0))]) (by intro q hq; simp at hq; rcases hq with rfl | rfl | rfl | rfl <;> rfl) ?_
    exact bring_loop hJ ht t 0 _ s (by omega) hs h hi Fr.rf
theorem c_drop {M : mm_M} {s : pSt} {k : Int32} (hJ : Jc E J) (hs : J s) (h : VgP G M ca cm g E v s.1 s.2.1 s.2.2) : CT l G Y_VG_drop ds_VG_drop (rm 2) [.ref v, .int k] M sz (VjQ G M sz ca cm g E v J) := by
  have hl := h.len
  refine CT.of (by decide) (Nat.le_of_ble_eq_true rfl) ?_
  refine rw_aload_n d_VG_drop_0 rfl (by first | exact mm_ref_r _ | exact mm_ref_n | exact mm_ref_o _) ?_
  refine rw_get d_VG_drop_1 fF_VG_24 h.1 rfl ?_
  refine rw_get d_VG_drop_4 fF_VG_125 h.post rfl ?_
  by_cases c : s.2.1.length = 0
  · rw [c]
    refine rw_if_le_t (tgt := 28) d_VG_drop_7 (by decide) (by decide) ?_
    exact rw_vret d_VG_drop_28 rfl ⟨rfl, rfl, ⟨s, hs, h⟩, Fr.rf⟩
  · refine rw_if_le_f (tgt := 28) d_VG_drop_7 (by decide) (nI_nle (by omega) (by omega)) ?_
    refine rw_aload_n d_VG_drop_10 rfl (by first | exact mm_ref_r _ | exact mm_ref_n | exact mm_ref_o _) ?_
    refine rw_get d_VG_drop_11 fF_VG_24 h.1 rfl ?_
    refine rw_iload_n d_VG_drop_14 rfl ?_
    refine rw_aload_n d_VG_drop_15 rfl (by first | exact mm_ref_r _ | exact mm_ref_n | exact mm_ref_o _) ?_
    refine rw_get d_VG_drop_16 fF_VG_24 h.1 rfl ?_
    refine rw_get d_VG_drop_19 fF_VG_125 h.post rfl ?_
    refine rw_callS (kc := 0) (ks := 0) (rest := [.ref (v + 2)]) d_VG_drop_22 (c_floorMod (x := k) (n := s.2.1.length) (by omega) (by omega)) mW_Math_floorMod mL_VG_180 mS_Math_floorMod ⟨by decide, by decide⟩ rfl rfl (Nat.le_of_ble_eq_true rfl) (fun r M1 sz1 hq => ?_)
    obtain ⟨⟨i, hi, rfl⟩, rfl, rfl⟩ := hq
    refine rw_stk (st' := [.int (nI i), .ref (v + 2)]) rfl ?_
    refine rw_callV (kc := 0) (ks := 0) (rest := []) d_VG_drop_25 (c_remove h.2.2.1.1 hi) mW_Post_remove mL_VG_191 mI_Post_remove mE_Post_remove ⟨by decide, by decide⟩ h.post rfl rfl rfl rfl (Nat.le_of_ble_eq_true rfl) (fun r M2 sz2 hq => ?_)
    obtain ⟨rfl, rfl, q1, q2⟩ := hq
    refine rw_stk (st' := []) rfl ?_
    exact rw_vret d_VG_drop_28 rfl ⟨rfl, rfl, ⟨(s.1, s.2.1.eraseIdx i, s.2.2), hJ.2.2.1 s i hs, h.sent q1 q2⟩, Fr.vg q2⟩
theorem Jc.go {s : pSt} {i : Nat} {m : pMsg} (hJ : Jc E J) (hs : J s) (hm : s.2.1[i]? = some m) : J (pGo E s i m) := hJ.2.2.1 _ i (hJ.2.1 s i m hs hm)
theorem Jc.all (hJ : Jc E J) : ∀ (f : Nat) (s : pSt), J s → J (pBA E f s) := by
  intro f
  induction f with
  | zero => intro s hs; exact hs
  | succ f ih =>
    intro s hs
    unfold pBA
    split
    · exact hs
    · rename_i m r hr
      exact ih _ (hJ.go hs (by rw [hr]; rfl))
set_option maxRecDepth 100000 in
theorem bringAll_loop {M : mm_M} {S : pSt} (hJ : Jc E J) : ∀ (f i : Nat) (M1 : mm_M) (s : pSt), f + i = 1000000 → J s → VgP G M1 ca cm g E v s.1 s.2.1 s.2.2 → Fr M M1 v (vgN E) → pBA E f s = S →
    RW l G Y_VG_bringAll (rm 7) (mm_Z G (rm 7) (VgQ G M sz ca cm g E v S)) 0 0 2 [(0, .ref v), (1, .int (nI i))] [] M1 sz := by
  intro f
  induction f with
  | zero =>
    intro i M1 s hi hs h hF he
    refine rw_iload_n d_VG_bringAll_2 rfl ?_
    refine rw_ldc d_VG_bringAll_3 kC_VG_194 ?_
    refine rw_icmp_ge_t (tgt := 44) d_VG_bringAll_5 (by decide) (nI_le (a := 1000000) (by omega) (by omega)) ?_
    rw [pBA] at he
    subst he
    exact rw_vret d_VG_bringAll_44 rfl ⟨rfl, rfl, h, hF⟩
  | succ f ih =>
    intro i M1 s hi hs h hF he
    have hl := h.len
    refine rw_iload_n d_VG_bringAll_2 rfl ?_
    refine rw_ldc d_VG_bringAll_3 kC_VG_194 ?_
    refine rw_icmp_ge_f (tgt := 44) d_VG_bringAll_5 (by decide) (nI_ge (b := 1000000) (by omega) (by omega)) ?_
    refine rw_aload_n d_VG_bringAll_8 rfl (by first | exact mm_ref_r _ | exact mm_ref_n | exact mm_ref_o _) ?_
    refine rw_get d_VG_bringAll_9 fF_VG_24 h.1 rfl ?_
    refine rw_get d_VG_bringAll_12 fF_VG_125 h.post rfl ?_
    match hp : s.2.1 with
    | [] =>
      refine rw_if_le_t (tgt := 44) d_VG_bringAll_15 (by decide) (by decide) ?_
      unfold pBA at he
      rw [hp] at he
      simp only at he
      subst he
      exact rw_vret d_VG_bringAll_44 rfl ⟨rfl, rfl, h, hF⟩
    | m :: r =>
      have hm : s.2.1[0]? = some m := by rw [hp]; rfl
      have hlen : (m :: r).length ≤ 64 := by rw [← hp]; exact hl
      refine rw_if_le_f (tgt := 44) d_VG_bringAll_15 (by decide) (nI_nle (by simp) (by omega)) ?_
      refine rw_aload_n d_VG_bringAll_18 rfl (by first | exact mm_ref_r _ | exact mm_ref_n | exact mm_ref_o _) ?_
      refine rw_aload_n d_VG_bringAll_19 rfl (by first | exact mm_ref_r _ | exact mm_ref_n | exact mm_ref_o _) ?_
      refine rw_get d_VG_bringAll_20 fF_VG_24 h.1 rfl ?_
      refine rw_iconst (v := 0) d_VG_bringAll_23 (by decide) ?_
      refine rw_callV (kc := 0) (ks := 0) (rest := [.ref v]) d_VG_bringAll_24 (c_look (i := 0) h.2.2.1.1 hm) mW_Post_look mL_VG_183 mI_Post_look mE_Post_look ⟨by decide, by decide⟩ h.post rfl rfl rfl rfl (Nat.le_of_ble_eq_true rfl) (fun r2 M2 sz2 hq => ?_)
      obtain ⟨rfl, rfl, j, hj, rfl, q1⟩ := hq
      refine rw_stk (st' := [.ref (v + 2 + 3 + 5 * j), .ref v]) rfl ?_
      have hmem : m ∈ s.2.1 := by
        rw [hp]
        exact List.mem_cons_self
      refine rw_callV (kc := 0) (ks := 0) (rest := []) d_VG_bringAll_27 (c_arrive h hj q1 ((hJ.1 s hs).1 m hmem)) mW_VG_arrive mL_VG_187 mI_VG_arrive mE_VG_arrive ⟨by decide, by decide⟩ h.1 rfl rfl rfl rfl (Nat.le_of_ble_eq_true rfl) (fun r3 M3 sz3 hq => ?_)
      obtain ⟨rfl, rfl, q3, q4⟩ := hq
      refine rw_stk (st' := []) rfl ?_
      have hl3 : 0 < (pArr E s.1 s.2.1 s.2.2 m).2.1.length := Nat.lt_of_lt_of_le (by rw [hp]; simp) (pArr_len h.len)
      refine rw_aload_n d_VG_bringAll_30 rfl (by first | exact mm_ref_r _ | exact mm_ref_n | exact mm_ref_o _) ?_
      refine rw_get d_VG_bringAll_31 fF_VG_24 q3.1 rfl ?_
      refine rw_iconst (v := 0) d_VG_bringAll_34 (by decide) ?_
      refine rw_callV (kc := 0) (ks := 0) (rest := []) d_VG_bringAll_35 (c_remove (i := 0) q3.2.2.1.1 hl3) mW_Post_remove mL_VG_191 mI_Post_remove mE_Post_remove ⟨by decide, by decide⟩ q3.post rfl rfl rfl rfl (Nat.le_of_ble_eq_true rfl) (fun r4 M4 sz4 hq => ?_)
      obtain ⟨rfl, rfl, q5, q6⟩ := hq
      refine rw_stk (st' := []) rfl ?_
      refine rw_iinc d_VG_bringAll_38 (by decide) rfl rfl rfl ?_
      refine rw_lv (lv' := [(0, .ref v), (1, .int (nI (i + 1)))]) (by rw [← nI_1]; intro q hq; simp at hq; rcases hq with rfl | rfl <;> rfl) ?_
      refine rw_goto (tgt := 2) d_VG_bringAll_41 (by decide) ?_
      refine ih (i + 1) M4 (pGo E s 0 m) (by omega) (hJ.go hs hm) (q3.sent q5 q6) (hF.trans (q4.trans (Fr.vg q6))) ?_
      unfold pBA at he
      rw [hp] at he
      exact he
theorem c_bringAll {M : mm_M} {s : pSt} (hJ : Jc E J) (hs : J s) (h : VgP G M ca cm g E v s.1 s.2.1 s.2.2) : CT l G Y_VG_bringAll ds_VG_bringAll (rm 7) [.ref v] M sz (VgQ G M sz ca cm g E v (pBA E 1000000 s)) := by
  refine CT.of (by decide) (Nat.le_of_ble_eq_true rfl) ?_
  refine rw_iconst (v := 0) d_VG_bringAll_0 (by decide) ?_
  refine rw_istore_n d_VG_bringAll_1 (by decide) rfl ?_
  refine rw_lv (lv' := [(0, .ref v), (1, .int (nI 0))]) (by intro q hq; simp at hq; rcases hq with rfl | rfl <;> rfl) ?_
  exact bringAll_loop hJ 1000000 0 M s (by omega) hs h Fr.rf rfl
end BRING
