/-! Reports, by a node's numbers. -/
/-- sizes of a node's numbers -/
def pBd (x : pN) : Prop := (∀ j, x j ≤ 1000000) ∧ ∀ j, (j = 0 ∨ j = 1 ∨ j = 2 ∨ j = 3 ∨ j = 10 ∨ (20 ≤ j ∧ j < 30)) → x j ≤ 1
def RpP (M : mm_M) (a N : Nat) (x : pN) : Prop := ∃ hd en dn, RpR M a N hd en dn (nI (x 10)) (nI (x 11)) ∧ ∀ m, m < N → hd m = nI (x (20 + m)) ∧ en m = nI (x (30 + m)) ∧ dn m = nI (x (40 + m))
theorem RpP.kept {M M' : mm_M} {a N : Nat} {x : pN} (h : RpP M a N x) (hq : ∀ q, a ≤ q → q < a + 4 → M' q = M q) : RpP M' a N x := by
  obtain ⟨hd, en, dn, ⟨r0, r1, r2, r3⟩, h2⟩ := h
  exact ⟨hd, en, dn, ⟨(hq _ (by omega) (by omega)).trans r0, (hq _ (by omega) (by omega)).trans r1, (hq _ (by omega) (by omega)).trans r2, (hq _ (by omega) (by omega)).trans r3⟩, h2⟩
theorem RpP.same {M : mm_M} {a N : Nat} {x y : pN} (h : RpP M a N x) (h1 : y 10 = x 10) (h2 : y 11 = x 11) (h3 : ∀ m, m < N → y (20 + m) = x (20 + m) ∧ y (30 + m) = x (30 + m) ∧ y (40 + m) = x (40 + m)) : RpP M a N y := by
  obtain ⟨hd, en, dn, hr, h4⟩ := h
  refine ⟨hd, en, dn, by rw [h1, h2]; exact hr, fun m hm => ?_⟩
  obtain ⟨a1, a2, a3⟩ := h3 m hm
  rw [a1, a2, a3]
  exact h4 m hm
section REPORTS
variable {l : Launch} {G : mm_G} {M : mm_M} {sz : Nat}
def RpQ (M : mm_M) (sz a N : Nat) (x : pN) : Option Value → mm_M → Nat → Prop := fun r M' sz' => r = none ∧ sz' = sz ∧ RpP M' a N x ∧ Fr M M' a 4
theorem clear_loop {a N : Nat} {x : pN} {en dn : Nat → Int32} (hN : N < 7) (h3 : ∀ m, m < N → en m = nI (x (30 + m)) ∧ dn m = nI (x (40 + m))) : ∀ (k n : Nat) (M1 : mm_M) (hd : Nat → Int32) (rd ba : Int32), k + n = N → RpR M1 a N hd en dn rd ba → (∀ m, m < n → hd m = 0) → Fr M M1 a 4 →
    RW l G Y_Reports_clear (rm 1) (mm_Z G (rm 1) (RpQ M sz a N (pClear x))) 0 0 2 [(0, .ref a), (1, .int (nI n))] [] M1 sz := by
  intro k
  induction k with
  | zero =>
    intro n M1 hd rd ba hn hr hz hF
    obtain ⟨r0, r1, r2, r3⟩ := id hr
    refine rw_iload_n d_Reports_clear_2 rfl ?_
    refine rw_aload_n d_Reports_clear_3 rfl (by first | exact mm_ref_r _ | exact mm_ref_n | exact mm_ref_o _) ?_
    refine rw_get d_Reports_clear_4 fF_Reports_9 r0 rfl ?_
    refine rw_alen d_Reports_clear_7 r1 (by decide) rfl ?_
    refine rw_icmp_ge_t (tgt := 24) d_Reports_clear_8 (by decide) (nI_le (a := N) (b := n) (by omega) (by omega)) ?_
    refine rw_aload_n d_Reports_clear_24 rfl (by first | exact mm_ref_r _ | exact mm_ref_n | exact mm_ref_o _) ?_
    refine rw_iconst (v := 0) d_Reports_clear_25 (by decide) ?_
    refine rw_put d_Reports_clear_26 (fP_Reports_22 _) r0 (Nat.le_of_ble_eq_true rfl) (by first | rfl | assumption | decide) (by first | rfl | decide) ?_
    refine rw_aload_n d_Reports_clear_29 rfl (by first | exact mm_ref_r _ | exact mm_ref_n | exact mm_ref_o _) ?_
    refine rw_iconst (v := 0) d_Reports_clear_30 (by decide) ?_
    refine rw_put d_Reports_clear_31 (fP_Reports_26 _) (mup_self _ _ _) (Nat.le_of_ble_eq_true rfl) (by first | rfl | assumption | decide) (by first | rfl | decide) ?_
    refine rw_vret d_Reports_clear_34 rfl ⟨rfl, rfl, ⟨hd, en, dn, ⟨?_, ?_, ?_, ?_⟩, fun m hm => ⟨?_, ?_, ?_⟩⟩, Fr.mup (Fr.mup hF (by omega) (by omega)) (by omega) (by omega)⟩
    · rw [mup_self]
      rfl
    · simp [mup, r1]
    · simp [mup, r2]
    · simp [mup, r3]
    · rw [hz m (by omega), pClear, if_pos (by omega)]
      rfl
    · rw [(h3 m hm).1, pClear, if_neg (by omega)]
    · rw [(h3 m hm).2, pClear, if_neg (by omega)]
  | succ k ih =>
    intro n M1 hd rd ba hn hr hz hF
    obtain ⟨r0, r1, r2, r3⟩ := id hr
    have hin : vp_in (nI n) N := vp_in_nI (by omega) (by omega)
    have hic : (nI n).toNatClampNeg = n := nI_c (by omega)
    refine rw_iload_n d_Reports_clear_2 rfl ?_
    refine rw_aload_n d_Reports_clear_3 rfl (by first | exact mm_ref_r _ | exact mm_ref_n | exact mm_ref_o _) ?_
    refine rw_get d_Reports_clear_4 fF_Reports_9 r0 rfl ?_
    refine rw_alen d_Reports_clear_7 r1 (by decide) rfl ?_
    refine rw_icmp_ge_f (tgt := 24) d_Reports_clear_8 (by decide) (nI_ge (a := n) (b := N) (by omega) (by omega)) ?_
    refine rw_aload_n d_Reports_clear_11 rfl (by first | exact mm_ref_r _ | exact mm_ref_n | exact mm_ref_o _) ?_
    refine rw_get d_Reports_clear_12 fF_Reports_9 r0 rfl ?_
    refine rw_iload_n d_Reports_clear_15 rfl ?_
    refine rw_iconst (v := 0) d_Reports_clear_16 (by decide) ?_
    refine rw_zast d_Reports_clear_17 r1 hin (by first | rfl | assumption | decide) ?_
    rw [hic]
    refine rw_iinc d_Reports_clear_18 (by decide) rfl rfl rfl ?_
    refine rw_lv (lv' := [(0, .ref a), (1, .int (nI (n + 1)))]) (by rw [← nI_1]; intro q hq; simp at hq; rcases hq with rfl | rfl <;> rfl) ?_
    refine rw_goto (tgt := 2) d_Reports_clear_21 (by decide) ?_
    refine ih (n + 1) _ (upd hd n 0) rd ba (by omega) ⟨?_, ?_, ?_, ?_⟩ (fun m hm => ?_) (Fr.mup hF (by omega) (by omega))
    · simp [mup, r0]
    · simp [mup]
    · simp [mup, r2]
    · simp [mup, r3]
    · by_cases q : m = n
      · simp [upd, q]
      · simp only [upd, if_neg q]
        exact hz m (by omega)
theorem c_clear {a N : Nat} {x : pN} (hN : N < 7) (hR : RpP M a N x) : CT l G Y_Reports_clear ds_Reports_clear (rm 1) [.ref a] M sz (RpQ M sz a N (pClear x)) := by
  obtain ⟨hd, en, dn, hr, h2⟩ := hR
  refine CT.of (by decide) (Nat.le_of_ble_eq_true rfl) ?_
  refine rw_iconst (v := 0) d_Reports_clear_0 (by decide) ?_
  refine rw_istore_n d_Reports_clear_1 (by decide) rfl ?_
  refine rw_lv (lv' := [(0, .ref a), (1, .int (nI 0))]) (by intro q hq; simp at hq; rcases hq with rfl | rfl <;> rfl) ?_
  exact clear_loop hN (fun m hm => (h2 m hm).2) N 0 M hd _ _ (by omega) hr (fun m hm => by omega) Fr.rf
theorem c_note {a N n b d : Nat} {x : pN} (hN : N < 7) (hn : n < N) (hR : RpP M a N x) : CT l G Y_Reports_note ds_Reports_note (rm 1) [.ref a, .int (nI n), .int (nI b), .int (nI d)] M sz (RpQ M sz a N (pNote x n b d)) := by
  obtain ⟨hd, en, dn, ⟨r0, r1, r2, r3⟩, h2⟩ := hR
  have hin : vp_in (nI n) N := vp_in_nI hn (by omega)
  have hic : (nI n).toNatClampNeg = n := nI_c (by omega)
  refine CT.of (by decide) (Nat.le_of_ble_eq_true rfl) ?_
  refine rw_iload_n d_Reports_note_0 rfl ?_
  refine rw_if_lt_f (tgt := 34) d_Reports_note_1 (by decide) (nI_pos (by omega)) ?_
  refine rw_iload_n d_Reports_note_4 rfl ?_
  refine rw_aload_n d_Reports_note_5 rfl (by first | exact mm_ref_r _ | exact mm_ref_n | exact mm_ref_o _) ?_
  refine rw_get d_Reports_note_6 fF_Reports_9 r0 rfl ?_
  refine rw_alen d_Reports_note_9 r1 (by decide) rfl ?_
  refine rw_icmp_ge_f (tgt := 34) d_Reports_note_10 (by decide) (nI_ge (a := n) (b := N) (by omega) (by omega)) ?_
  refine rw_aload_n d_Reports_note_13 rfl (by first | exact mm_ref_r _ | exact mm_ref_n | exact mm_ref_o _) ?_
  refine rw_get d_Reports_note_14 fF_Reports_9 r0 rfl ?_
  refine rw_iload_n d_Reports_note_17 rfl ?_
  refine rw_iconst (v := 1) d_Reports_note_18 (by decide) ?_
  refine rw_zast d_Reports_note_19 r1 hin (by first | rfl | assumption | decide) ?_
  refine rw_aload_n d_Reports_note_20 rfl (by first | exact mm_ref_r _ | exact mm_ref_n | exact mm_ref_o _) ?_
  refine rw_get d_Reports_note_21 fF_Reports_15 (mup_get (by omega) r0) rfl ?_
  refine rw_iload_n d_Reports_note_24 rfl ?_
  refine rw_iload_n d_Reports_note_25 rfl ?_
  refine rw_iast d_Reports_note_26 (mup_get (by omega) r2) hin ?_
  refine rw_aload_n d_Reports_note_27 rfl (by first | exact mm_ref_r _ | exact mm_ref_n | exact mm_ref_o _) ?_
  refine rw_get d_Reports_note_28 fF_Reports_19 (mup_get (by omega) (mup_get (by omega) r0)) rfl ?_
  refine rw_iload_n d_Reports_note_31 rfl ?_
  refine rw_iload_n d_Reports_note_32 rfl ?_
  refine rw_iast d_Reports_note_33 (mup_get (by omega) (mup_get (by omega) r3)) hin ?_
  rw [hic]
  refine rw_vret d_Reports_note_34 rfl ⟨rfl, rfl, ⟨upd hd n 1, upd en n (nI b), upd dn n (nI d), ⟨?_, ?_, ?_, ?_⟩, fun m hm => ?_⟩, Fr.mup (Fr.mup (Fr.mup Fr.rf (by omega) (by omega)) (by omega) (by omega)) (by omega) (by omega)⟩
  · rw [show pNote x n b d 10 = x 10 by rw [pNote, if_neg (by omega), if_neg (by omega), if_neg (by omega)], show pNote x n b d 11 = x 11 by rw [pNote, if_neg (by omega), if_neg (by omega), if_neg (by omega)]]
    simp [mup, r0]
  · simp [mup]
  · simp [mup]
  · simp [mup]
  · obtain ⟨a1, a2, a3⟩ := h2 m hm
    by_cases q : m = n
    · subst q
      refine ⟨?_, ?_, ?_⟩
      · rw [pNote, if_pos rfl]
        simp [upd]
        rfl
      · rw [pNote, if_neg (by omega), if_pos rfl]
        simp [upd]
      · rw [pNote, if_neg (by omega), if_neg (by omega), if_pos rfl]
        simp [upd]
    · refine ⟨?_, ?_, ?_⟩
      · rw [pNote, if_neg (by omega), if_neg (by omega), if_neg (by omega)]
        simp [upd, q, a1]
      · rw [pNote, if_neg (by omega), if_neg (by omega), if_neg (by omega)]
        simp [upd, q, a2]
      · rw [pNote, if_neg (by omega), if_neg (by omega), if_neg (by omega)]
        simp [upd, q, a3]
def NuQ (M : mm_M) (sz v : Nat) : Option Value → mm_M → Nat → Prop := fun r M' sz' => r = some (.int (nI v)) ∧ M' = M ∧ sz' = sz
theorem pSize_le (x : pN) : ∀ N, pSize N x ≤ N := by
  intro N
  induction N with
  | zero => exact Nat.le_refl _
  | succ n ih =>
    unfold pSize
    split <;> omega
theorem size_loop {a N : Nat} {x : pN} (hN : N < 7) (hR : RpP M a N x) (hb : pBd x) : ∀ (k n : Nat), k + n = N → RW l G Y_Reports_size (rm 1) (mm_Z G (rm 1) (NuQ M sz (pSize N x))) 0 0 4 [(0, .ref a), (1, .int (nI (pSize n x))), (2, .int (nI n))] [] M sz := by
  obtain ⟨hd, en, dn, ⟨r0, r1, r2, r3⟩, h2⟩ := hR
  intro k
  induction k with
  | zero =>
    intro n hn
    have : n = N := by omega
    subst this
    refine rw_iload_n d_Reports_size_4 rfl ?_
    refine rw_aload_n d_Reports_size_5 rfl (by first | exact mm_ref_r _ | exact mm_ref_n | exact mm_ref_o _) ?_
    refine rw_get d_Reports_size_6 fF_Reports_9 r0 rfl ?_
    refine rw_alen d_Reports_size_9 r1 (by decide) rfl ?_
    refine rw_icmp_ge_t (tgt := 31) d_Reports_size_10 (by decide) (nI_le (a := n) (b := n) (by omega) (by omega)) ?_
    refine rw_iload_n d_Reports_size_31 rfl ?_
    exact rw_iret d_Reports_size_32 rfl ⟨rfl, rfl, rfl⟩
  | succ k ih =>
    intro n hn
    have hin : vp_in (nI n) N := vp_in_nI (by omega) (by omega)
    have hic : (nI n).toNatClampNeg = n := nI_c (by omega)
    have hx1 := hb.2 (20 + n) (by omega)
    refine rw_iload_n d_Reports_size_4 rfl ?_
    refine rw_aload_n d_Reports_size_5 rfl (by first | exact mm_ref_r _ | exact mm_ref_n | exact mm_ref_o _) ?_
    refine rw_get d_Reports_size_6 fF_Reports_9 r0 rfl ?_
    refine rw_alen d_Reports_size_9 r1 (by decide) rfl ?_
    refine rw_icmp_ge_f (tgt := 31) d_Reports_size_10 (by decide) (nI_ge (a := n) (b := N) (by omega) (by omega)) ?_
    refine rw_aload_n d_Reports_size_13 rfl (by first | exact mm_ref_r _ | exact mm_ref_n | exact mm_ref_o _) ?_
    refine rw_get d_Reports_size_14 fF_Reports_9 r0 rfl ?_
    refine rw_iload_n d_Reports_size_17 rfl ?_
    refine rw_zald d_Reports_size_18 r1 hin ?_
    rw [hic, (h2 n (by omega)).1]
    rcases (show x (20 + n) = 0 ∨ x (20 + n) = 1 by omega) with q | q
    · rw [q]
      refine rw_if_eq_t (tgt := 25) d_Reports_size_19 (by decide) (rfl) ?_
      refine rw_iinc d_Reports_size_25 (by decide) rfl rfl rfl ?_
      refine rw_lv (lv' := [(0, .ref a), (1, .int (nI (pSize (n + 1) x))), (2, .int (nI (n + 1)))]) (by rw [← nI_1, show pSize (n + 1) x = pSize n x by simp [pSize, q]]; intro q hq; simp at hq; rcases hq with rfl | rfl | rfl <;> rfl) ?_
      refine rw_goto (tgt := 4) d_Reports_size_28 (by decide) ?_
      exact ih (n + 1) (by omega)
    · rw [q]
      refine rw_if_eq_f (tgt := 25) d_Reports_size_19 (by decide) (by decide) ?_
      refine rw_iinc d_Reports_size_22 (by decide) rfl rfl rfl ?_
      refine rw_iinc d_Reports_size_25 (by decide) rfl rfl rfl ?_
      refine rw_lv (lv' := [(0, .ref a), (1, .int (nI (pSize (n + 1) x))), (2, .int (nI (n + 1)))]) (by rw [← nI_1, show pSize (n + 1) x = pSize n x + 1 by simp [pSize, q], ← nI_1]; intro q hq; simp at hq; rcases hq with rfl | rfl | rfl <;> rfl) ?_
      refine rw_goto (tgt := 4) d_Reports_size_28 (by decide) ?_
      exact ih (n + 1) (by omega)
theorem c_size {a N : Nat} {x : pN} (hN : N < 7) (hR : RpP M a N x) (hb : pBd x) : CT l G Y_Reports_size ds_Reports_size (rm 1) [.ref a] M sz (NuQ M sz (pSize N x)) := by
  refine CT.of (by decide) (Nat.le_of_ble_eq_true rfl) ?_
  refine rw_iconst (v := 0) d_Reports_size_0 (by decide) ?_
  refine rw_istore_n d_Reports_size_1 (by decide) rfl ?_
  refine rw_iconst (v := 0) d_Reports_size_2 (by decide) ?_
  refine rw_istore_n d_Reports_size_3 (by decide) rfl ?_
  refine rw_lv (lv' := [(0, .ref a), (1, .int (nI (pSize 0 x))), (2, .int (nI 0))]) (by intro q hq; simp at hq; rcases hq with rfl | rfl | rfl <;> rfl) ?_
  exact size_loop hN hR hb N 0 (by omega)
theorem pFar_lt (x : pN) {self : Nat} : ∀ N, pFar N x self = self ∨ pFar N x self < N := by
  intro N
  induction N with
  | zero => exact Or.inl rfl
  | succ n ih =>
    unfold pFar
    split
    · exact Or.inr (by omega)
    · exact ih.imp id (fun z => by omega)
theorem far_loop {a N self : Nat} {x : pN} (hN : N < 7) (hs : self < N) (hR : RpP M a N x) (hb : pBd x) : ∀ (k n : Nat), k + n = N → RW l G Y_Reports_furthest (rm 1) (mm_Z G (rm 1) (NuQ M sz (pFar N x self))) 0 0 4 [(0, .ref a), (2, .int (nI (pFar n x self))), (3, .int (nI n))] [] M sz := by
  obtain ⟨hd, en, dn, ⟨r0, r1, r2, r3⟩, h2⟩ := hR
  intro k
  induction k with
  | zero =>
    intro n hn
    have : n = N := by omega
    subst this
    refine rw_iload_n d_Reports_furthest_4 rfl ?_
    refine rw_aload_n d_Reports_furthest_5 rfl (by first | exact mm_ref_r _ | exact mm_ref_n | exact mm_ref_o _) ?_
    refine rw_get d_Reports_furthest_6 fF_Reports_9 r0 rfl ?_
    refine rw_alen d_Reports_furthest_9 r1 (by decide) rfl ?_
    refine rw_icmp_ge_t (tgt := 45) d_Reports_furthest_10 (by decide) (nI_le (a := n) (b := n) (by omega) (by omega)) ?_
    refine rw_iload_n d_Reports_furthest_45 rfl ?_
    exact rw_iret d_Reports_furthest_46 rfl ⟨rfl, rfl, rfl⟩
  | succ k ih =>
    intro n hn
    have hin : vp_in (nI n) N := vp_in_nI (by omega) (by omega)
    have hic : (nI n).toNatClampNeg = n := nI_c (by omega)
    have hx1 := hb.2 (20 + n) (by omega)
    have hbn : pFar n x self < N := by rcases pFar_lt x (self := self) n with z | z <;> omega
    have hin2 : vp_in (nI (pFar n x self)) N := vp_in_nI hbn (by omega)
    have hic2 : (nI (pFar n x self)).toNatClampNeg = pFar n x self := nI_c (by omega)
    have b1 := hb.1 (30 + n)
    have b2 := hb.1 (30 + pFar n x self)
    have skip : pFar (n + 1) x self = pFar n x self → RW l G Y_Reports_furthest (rm 1) (mm_Z G (rm 1) (NuQ M sz (pFar N x self))) 0 0 39 [(0, .ref a), (2, .int (nI (pFar n x self))), (3, .int (nI n))] [] M sz := by
      intro e
      refine rw_iinc d_Reports_furthest_39 (by decide) rfl rfl rfl ?_
      refine rw_lv (lv' := [(0, .ref a), (2, .int (nI (pFar (n + 1) x self))), (3, .int (nI (n + 1)))]) (by rw [← nI_1, e]; intro q hq; simp at hq; rcases hq with rfl | rfl | rfl <;> rfl) ?_
      refine rw_goto (tgt := 4) d_Reports_furthest_42 (by decide) ?_
      exact ih (n + 1) (by omega)
    refine rw_iload_n d_Reports_furthest_4 rfl ?_
    refine rw_aload_n d_Reports_furthest_5 rfl (by first | exact mm_ref_r _ | exact mm_ref_n | exact mm_ref_o _) ?_
    refine rw_get d_Reports_furthest_6 fF_Reports_9 r0 rfl ?_
    refine rw_alen d_Reports_furthest_9 r1 (by decide) rfl ?_
    refine rw_icmp_ge_f (tgt := 45) d_Reports_furthest_10 (by decide) (nI_ge (a := n) (b := N) (by omega) (by omega)) ?_
    refine rw_aload_n d_Reports_furthest_13 rfl (by first | exact mm_ref_r _ | exact mm_ref_n | exact mm_ref_o _) ?_
    refine rw_get d_Reports_furthest_14 fF_Reports_9 r0 rfl ?_
    refine rw_iload_n d_Reports_furthest_17 rfl ?_
    refine rw_zald d_Reports_furthest_18 r1 hin ?_
    rw [hic, (h2 n (by omega)).1]
    rcases (show x (20 + n) = 0 ∨ x (20 + n) = 1 by omega) with q | q
    · rw [q]
      refine rw_if_eq_t (tgt := 39) d_Reports_furthest_19 (by decide) (rfl) ?_
      exact skip (by simp [pFar, q])
    · rw [q]
      refine rw_if_eq_f (tgt := 39) d_Reports_furthest_19 (by decide) (by decide) ?_
      refine rw_aload_n d_Reports_furthest_22 rfl (by first | exact mm_ref_r _ | exact mm_ref_n | exact mm_ref_o _) ?_
      refine rw_get d_Reports_furthest_23 fF_Reports_15 r0 rfl ?_
      refine rw_iload_n d_Reports_furthest_26 rfl ?_
      refine rw_iald d_Reports_furthest_27 r2 hin ?_
      refine rw_aload_n d_Reports_furthest_28 rfl (by first | exact mm_ref_r _ | exact mm_ref_n | exact mm_ref_o _) ?_
      refine rw_get d_Reports_furthest_29 fF_Reports_15 r0 rfl ?_
      refine rw_iload_n d_Reports_furthest_32 rfl ?_
      refine rw_iald d_Reports_furthest_33 r2 hin2 ?_
      rw [hic, hic2, (h2 n (by omega)).2.1, (h2 _ hbn).2.1]
      refine rw_icmp_le (tgt := 39) d_Reports_furthest_34 (by decide) (fun q2 => ?_) (fun q2 => ?_)
      · rw [nI_leI (by omega) (by omega)] at q2
        exact skip (by rw [pFar, if_neg (fun z => by omega)])
      · rw [nI_leI (by omega) (by omega)] at q2
        refine rw_iload_n d_Reports_furthest_37 rfl ?_
        refine rw_istore_n d_Reports_furthest_38 (by decide) rfl ?_
        refine rw_iinc d_Reports_furthest_39 (by decide) rfl rfl rfl ?_
        refine rw_lv (lv' := [(0, .ref a), (2, .int (nI (pFar (n + 1) x self))), (3, .int (nI (n + 1)))]) (by rw [← nI_1, show pFar (n + 1) x self = n by rw [pFar, if_pos ⟨q, by omega⟩]]; intro q hq; simp at hq; rcases hq with rfl | rfl | rfl <;> rfl) ?_
        refine rw_goto (tgt := 4) d_Reports_furthest_42 (by decide) ?_
        exact ih (n + 1) (by omega)
theorem c_furthest {a N self : Nat} {x : pN} (hN : N < 7) (hs : self < N) (hR : RpP M a N x) (hb : pBd x) : CT l G Y_Reports_furthest ds_Reports_furthest (rm 1) [.ref a, .int (nI self)] M sz (NuQ M sz (pFar N x self)) := by
  refine CT.of (by decide) (Nat.le_of_ble_eq_true rfl) ?_
  refine rw_iload_n d_Reports_furthest_0 rfl ?_
  refine rw_istore_n d_Reports_furthest_1 (by decide) rfl ?_
  refine rw_iconst (v := 0) d_Reports_furthest_2 (by decide) ?_
  refine rw_istore_n d_Reports_furthest_3 (by decide) rfl ?_
  refine rw_lv (lv' := [(0, .ref a), (2, .int (nI (pFar 0 x self))), (3, .int (nI 0))]) (by intro q hq; simp at hq; rcases hq with rfl | rfl | rfl <;> rfl) ?_
  exact far_loop hN hs hR hb N 0 (by omega)
theorem pAgr_le (mask : Nat) (x : pN) : ∀ N, pAgr mask N x ≤ 512 := by
  intro N
  induction N with
  | zero => exact Nat.le_refl _
  | succ n ih =>
    unfold pAgr
    split
    · omega
    · exact ih
theorem agr_loop {a N mask : Nat} {x : pN} (hN : N < 7) (hk : mask < 64) (hR : RpP M a N x) (hb : pBd x) : ∀ (k n : Nat), k + n = N → RW l G Y_Reports_agreed (rm 2) (mm_Z G (rm 2) (NuQ M sz (pAgr mask N x))) 0 0 6 [(0, .ref a), (1, .int (nI mask)), (2, .int (nI (pAgr mask n x))), (3, .int (nI n))] [] M sz := by
  obtain ⟨hd, en, dn, ⟨r0, r1, r2, r3⟩, h2⟩ := hR
  intro k
  induction k with
  | zero =>
    intro n hn
    have : n = N := by omega
    subst this
    refine rw_iload_n d_Reports_agreed_6 rfl ?_
    refine rw_aload_n d_Reports_agreed_7 rfl (by first | exact mm_ref_r _ | exact mm_ref_n | exact mm_ref_o _) ?_
    refine rw_get d_Reports_agreed_8 fF_Reports_9 r0 rfl ?_
    refine rw_alen d_Reports_agreed_11 r1 (by decide) rfl ?_
    refine rw_icmp_ge_t (tgt := 53) d_Reports_agreed_12 (by decide) (nI_le (a := n) (b := n) (by omega) (by omega)) ?_
    refine rw_iload_n d_Reports_agreed_53 rfl ?_
    exact rw_iret d_Reports_agreed_54 rfl ⟨rfl, rfl, rfl⟩
  | succ k ih =>
    intro n hn
    have hin : vp_in (nI n) N := vp_in_nI (by omega) (by omega)
    have hic : (nI n).toNatClampNeg = n := nI_c (by omega)
    have hx1 := hb.2 (20 + n) (by omega)
    have b1 := hb.1 (30 + n)
    have b2 := pAgr_le mask x n
    refine rw_iload_n d_Reports_agreed_6 rfl ?_
    refine rw_aload_n d_Reports_agreed_7 rfl (by first | exact mm_ref_r _ | exact mm_ref_n | exact mm_ref_o _) ?_
    refine rw_get d_Reports_agreed_8 fF_Reports_9 r0 rfl ?_
    refine rw_alen d_Reports_agreed_11 r1 (by decide) rfl ?_
    refine rw_icmp_ge_f (tgt := 53) d_Reports_agreed_12 (by decide) (nI_ge (a := n) (b := N) (by omega) (by omega)) ?_
    refine rw_iload_n d_Reports_agreed_15 rfl ?_
    refine rw_iload_n d_Reports_agreed_16 rfl ?_
    refine rw_iushr d_Reports_agreed_17 rfl ?_
    refine rw_iconst (v := 1) d_Reports_agreed_18 (by decide) ?_
    refine rw_iand d_Reports_agreed_19 ?_
    refine rw_if_eq (tgt := 47) d_Reports_agreed_20 (by decide) (fun q => ?_) (fun q => ?_)
    · rw [bit_val mask hk n (by omega)] at q
      refine rw_iinc d_Reports_agreed_47 (by decide) rfl rfl rfl ?_
      refine rw_lv (lv' := [(0, .ref a), (1, .int (nI mask)), (2, .int (nI (pAgr mask (n + 1) x))), (3, .int (nI (n + 1)))]) (by rw [← nI_1, show pAgr mask (n + 1) x = pAgr mask n x by simp [pAgr, q]]; intro q hq; simp at hq; rcases hq with rfl | rfl | rfl | rfl <;> rfl) ?_
      refine rw_goto (tgt := 6) d_Reports_agreed_50 (by decide) ?_
      exact ih (n + 1) (by omega)
    · rw [bit_val mask hk n (by omega), Classical.not_not] at q
      refine rw_iload_n d_Reports_agreed_23 rfl ?_
      refine rw_aload_n d_Reports_agreed_24 rfl (by first | exact mm_ref_r _ | exact mm_ref_n | exact mm_ref_o _) ?_
      refine rw_get d_Reports_agreed_25 fF_Reports_9 r0 rfl ?_
      refine rw_iload_n d_Reports_agreed_28 rfl ?_
      refine rw_zald d_Reports_agreed_29 r1 hin ?_
      rw [hic, (h2 n (by omega)).1]
      have join : ∀ v, v = (if x (20 + n) = 1 then x (30 + n) else 0) → RW l G Y_Reports_agreed (rm 2) (mm_Z G (rm 2) (NuQ M sz (pAgr mask N x))) 0 0 43 [(0, .ref a), (1, .int (nI mask)), (2, .int (nI (pAgr mask n x))), (3, .int (nI n))] [.int (nI v), .int (nI (pAgr mask n x))] M sz := by
        intro v hv
        have hvb : v < 2147483648 := by rw [hv]; split <;> omega
        refine rw_callS (kc := 0) (ks := 0) (rest := []) d_Reports_agreed_43 (c_min (x := nI (pAgr mask n x)) (y := nI v)) mW_Math_min mL_Reports_30 mS_Math_min ⟨by decide, by decide⟩ rfl rfl (Nat.le_of_ble_eq_true rfl) (fun r M1 sz1 hq => ?_)
        obtain ⟨rfl, rfl, rfl⟩ := hq
        rw [nI_min (by omega) hvb]
        refine rw_stk (st' := [.int (nI (min (pAgr mask n x) v))]) rfl ?_
        refine rw_istore_n d_Reports_agreed_46 (by decide) rfl ?_
        refine rw_iinc d_Reports_agreed_47 (by decide) rfl rfl rfl ?_
        refine rw_lv (lv' := [(0, .ref a), (1, .int (nI mask)), (2, .int (nI (pAgr mask (n + 1) x))), (3, .int (nI (n + 1)))]) (by rw [← nI_1, show pAgr mask (n + 1) x = min (pAgr mask n x) v by rw [hv]; simp [pAgr, q]]; intro q hq; simp at hq; rcases hq with rfl | rfl | rfl | rfl <;> rfl) ?_
        refine rw_goto (tgt := 6) d_Reports_agreed_50 (by decide) ?_
        exact ih (n + 1) (by omega)
      rcases (show x (20 + n) = 0 ∨ x (20 + n) = 1 by omega) with q1 | q1
      · rw [q1]
        refine rw_if_eq_t (tgt := 42) d_Reports_agreed_30 (by decide) (rfl) ?_
        refine rw_iconst (v := 0) d_Reports_agreed_42 (by decide) ?_
        exact join 0 (by rw [if_neg (by omega)])
      · rw [q1]
        refine rw_if_eq_f (tgt := 42) d_Reports_agreed_30 (by decide) (by decide) ?_
        refine rw_aload_n d_Reports_agreed_33 rfl (by first | exact mm_ref_r _ | exact mm_ref_n | exact mm_ref_o _) ?_
        refine rw_get d_Reports_agreed_34 fF_Reports_15 r0 rfl ?_
        refine rw_iload_n d_Reports_agreed_37 rfl ?_
        refine rw_iald d_Reports_agreed_38 r2 hin ?_
        refine rw_goto (tgt := 43) d_Reports_agreed_39 (by decide) ?_
        rw [hic, (h2 n (by omega)).2.1]
        exact join (x (30 + n)) (by rw [if_pos q1])
theorem c_agreed {a N mask : Nat} {x : pN} (hN : N < 7) (hk : mask < 64) (hR : RpP M a N x) (hb : pBd x) : CT l G Y_Reports_agreed ds_Reports_agreed (rm 2) [.ref a, .int (nI mask)] M sz (NuQ M sz (pAgr mask N x)) := by
  refine CT.of (by decide) (Nat.le_of_ble_eq_true rfl) ?_
  refine rw_sipush (v := 512) d_Reports_agreed_0 (by decide) ?_
  refine rw_istore_n d_Reports_agreed_3 (by decide) rfl ?_
  refine rw_iconst (v := 0) d_Reports_agreed_4 (by decide) ?_
  refine rw_istore_n d_Reports_agreed_5 (by decide) rfl ?_
  refine rw_lv (lv' := [(0, .ref a), (1, .int (nI mask)), (2, .int (nI (pAgr mask 0 x))), (3, .int (nI 0))]) (by intro q hq; simp at hq; rcases hq with rfl | rfl | rfl | rfl <;> rfl) ?_
  exact agr_loop hN hk hR hb N 0 (by omega)
end REPORTS
