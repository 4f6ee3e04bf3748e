/-! Copies by their numbers: done d, end b. Loops: doUpTo, copyFrom, empty, follow. -/
theorem nI_min {a b : Nat} (ha : a < 2147483648) (hb : b < 2147483648) : (if nI a ≤ nI b then nI a else nI b) = nI (min a b) := by
  by_cases q : a ≤ b
  · rw [if_pos ((nI_leI ha hb).mpr q), Nat.min_eq_left q]
  · rw [if_neg (fun z => q ((nI_leI ha hb).mp z)), Nat.min_eq_right (by omega)]
/-- the commands given so far stand in memory -/
def CmA (M : mm_M) (ca : Nat → Nat) (cm : Nat → pCm) (g : Nat) : Prop := ∀ i, i < g → cOk (cm i) ∧ M (ca i) = some (cmO i (cm i))
/-- nothing changed but n cells from a on -/
def Fr (M M' : mm_M) (a n : Nat) : Prop := ∀ q, q < a ∨ a + n ≤ q → M' q = M q
theorem Fr.rf {M : mm_M} {a n : Nat} : Fr M M a n := fun _ _ => rfl
theorem Fr.trans {M M' M2 : mm_M} {a n : Nat} (h : Fr M M' a n) (k : Fr M' M2 a n) : Fr M M2 a n := fun q hq => (k q hq).trans (h q hq)
theorem Fr.mup {M M' : mm_M} {a n x : Nat} {e : va_E} (h : Fr M M' a n) (h1 : a ≤ x) (h2 : x < a + n) : Fr M (mup M' x e) a n := fun q hq => by
  rw [mup_ne _ _ (by omega)]
  exact h q hq
/-- a copy: f = 0 any cells, 1 its log is right, 2 its table and answers too -/
def CpP (f : Nat) (M : mm_M) (ca : Nat → Nat) (cm : Nat → pCm) (g a d b : Nat) : Prop := ∃ h v an lg, CpR M a d b h v an lg ∧ d ≤ 512 ∧ b ≤ 512 ∧ (∀ j, j < 8 → lg j = none ∨ ∃ i, i < g ∧ lg j = some (ca i)) ∧
  (1 ≤ f → d ≤ b ∧ b ≤ d + 8 ∧ b ≤ g ∧ ∀ i, i < b → b ≤ i + 8 → lg (i % 8) = some (ca i)) ∧
  (2 ≤ f → hOk h (tab cm d).1 ∧ (∀ k, k < 40 → v k = (tab cm d).2 k) ∧ ∀ i, i < d → d ≤ i + 8 → an (i % 8) = tAns cm i)
theorem CpP.kept {f : Nat} {M M' : mm_M} {ca : Nat → Nat} {cm : Nat → pCm} {g a d b : Nat} (h : CpP f M ca cm g a d b) (hq : ∀ q, a ≤ q → q < a + 4 → M' q = M q) : CpP f M' ca cm g a d b := by
  obtain ⟨hh, v, an, lg, ⟨r0, r1, r2, r3⟩, hr⟩ := h
  exact ⟨hh, v, an, lg, ⟨by rw [hq a (by omega) (by omega)]; exact r0, by rw [hq _ (by omega) (by omega)]; exact r1, by rw [hq _ (by omega) (by omega)]; exact r2, by rw [hq _ (by omega) (by omega)]; exact r3⟩, hr⟩
theorem CpP.le {f f' : Nat} {M : mm_M} {ca : Nat → Nat} {cm : Nat → pCm} {g a d b : Nat} (h : CpP f M ca cm g a d b) (hf : f' ≤ f) : CpP f' M ca cm g a d b := by
  obtain ⟨hh, v, an, lg, hr, h1, h2, h3, h4, h5⟩ := h
  exact ⟨hh, v, an, lg, hr, h1, h2, h3, fun q => h4 (by omega), fun q => h5 (by omega)⟩
theorem CmA.apart {M : mm_M} {ca : Nat → Nat} {cm : Nat → pCm} {g a d b i : Nat} {h : Int64} {v an : Nat → Int32} {lg : Nat → Option Nat} (hA : CmA M ca cm g) (hC : CpR M a d b h v an lg) (hi : i < g) : ca i < a ∨ a + 4 ≤ ca i := by
  have e := (hA i hi).2
  obtain ⟨r0, r1, r2, r3⟩ := hC
  rcases Nat.lt_or_ge (ca i) a with q | q
  · exact Or.inl q
  · right
    rcases Nat.lt_or_ge (ca i) (a + 4) with q2 | q2
    · exfalso
      rcases (show ca i = a ∨ ca i = a + 1 ∨ ca i = a + 2 ∨ ca i = a + 3 by omega) with z | z | z | z
      · rw [z, r0] at e
        cases e
      · rw [z, r1] at e
        cases e
      · rw [z, r2] at e
        cases e
      · rw [z, r3] at e
        cases e
    · exact q2
theorem CmA.kept {M M' : mm_M} {ca : Nat → Nat} {cm : Nat → pCm} {g : Nat} (hA : CmA M ca cm g) (hq : ∀ i, i < g → M' (ca i) = M (ca i)) : CmA M' ca cm g := fun i hi => ⟨(hA i hi).1, by rw [hq i hi]; exact (hA i hi).2⟩
theorem CmA.fr {f : Nat} {M M' : mm_M} {ca : Nat → Nat} {cm : Nat → pCm} {g a d b : Nat} (hA : CmA M ca cm g) (hC : CpP f M ca cm g a d b) (hF : Fr M M' a 4) : CmA M' ca cm g := by
  obtain ⟨h, v, an, lg, hr, -⟩ := hC
  exact hA.kept (fun i hi => hF _ (hA.apart hr hi))
section COPYP
variable {l : Launch} {G : mm_G} {sz : Nat} {ca : Nat → Nat} {cm : Nat → pCm} {g : Nat}
def DuQ (M : mm_M) (sz : Nat) (ca : Nat → Nat) (cm : Nat → pCm) (g a d b lim : Nat) : Option Value → mm_M → Nat → Prop := fun r M' sz' => r = some (.int (bI (decide (d < min lim b)))) ∧ sz' = sz ∧ CpP 2 M' ca cm g a (max d (min lim b)) b ∧ Fr M M' a 4
theorem doUpTo_loop {M : mm_M} {a d b lim : Nat} (hA : CmA M ca cm g) (h0 : CpP 2 M ca cm g a d b) : ∀ (n k : Nat) (M1 : mm_M), n + k = max d (min lim b) → d ≤ k → CpP 2 M1 ca cm g a k b → Fr M M1 a 4 →
    RW l G Y_Copy_doUpTo (rm 2) (mm_Z G (rm 2) (DuQ M sz ca cm g a d b lim)) 0 0 14 [(0, .ref a), (2, .int (nI d)), (3, .int (nI (min lim b)))] [] M1 sz := by
  intro n
  induction n with
  | zero =>
    intro k M1 hn hk hC hF
    obtain ⟨h, v, an, lg, hr, b1, b2, -⟩ := id hC
    obtain ⟨r0, r1, r2, r3⟩ := hr
    have hml : min lim b ≤ b := Nat.min_le_right _ _
    refine rw_aload_n d_Copy_doUpTo_14 rfl (by first | exact mm_ref_r _ | exact mm_ref_n | exact mm_ref_o _) ?_
    refine rw_get d_Copy_doUpTo_15 fF_Copy_28 r0 rfl ?_
    refine rw_iload_n d_Copy_doUpTo_18 rfl ?_
    refine rw_icmp_ge_t (tgt := 63) d_Copy_doUpTo_19 (by decide) (nI_le (by omega) (by omega)) ?_
    refine rw_aload_n d_Copy_doUpTo_63 rfl (by first | exact mm_ref_r _ | exact mm_ref_n | exact mm_ref_o _) ?_
    refine rw_get d_Copy_doUpTo_64 fF_Copy_28 r0 rfl ?_
    refine rw_iload_n d_Copy_doUpTo_67 rfl ?_
    refine rw_icmp_le (tgt := 75) d_Copy_doUpTo_68 (by decide) (fun q => ?_) (fun q => ?_)
    · refine rw_iconst (v := 0) d_Copy_doUpTo_75 (by decide) ?_
      rw [nI_leI (by omega) (by omega)] at q
      refine rw_zret d_Copy_doUpTo_76 rfl rfl ⟨?_, rfl, ?_, hF⟩
      · rw [decide_eq_false (by omega)]
        rfl
      · rw [← hn, Nat.zero_add]
        exact hC
    · refine rw_iconst (v := 1) d_Copy_doUpTo_71 (by decide) ?_
      refine rw_goto (tgt := 76) d_Copy_doUpTo_72 (by decide) ?_
      rw [nI_leI (by omega) (by omega)] at q
      refine rw_zret d_Copy_doUpTo_76 rfl rfl ⟨?_, rfl, ?_, hF⟩
      · rw [decide_eq_true (by omega)]
        rfl
      · rw [← hn, Nat.zero_add]
        exact hC
  | succ n ih =>
    intro k M1 hn hk hC hF
    obtain ⟨h, v, an, lg, hr, b1, b2, b3, b4, b5⟩ := id hC
    obtain ⟨c1, c2, c3, c4⟩ := b4 (by omega)
    obtain ⟨t1, t2, t3⟩ := b5 (by omega)
    obtain ⟨r0, r1, r2, r3⟩ := id hr
    have hml : min lim b ≤ b := Nat.min_le_right _ _
    have hkb : k < b := by omega
    have hA1 : CmA M1 ca cm g := hA.fr h0 hF
    have hlk : lg (k % 8) = some (ca k) := c4 k hkb (by omega)
    refine rw_aload_n d_Copy_doUpTo_14 rfl (by first | exact mm_ref_r _ | exact mm_ref_n | exact mm_ref_o _) ?_
    refine rw_get d_Copy_doUpTo_15 fF_Copy_28 r0 rfl ?_
    refine rw_iload_n d_Copy_doUpTo_18 rfl ?_
    refine rw_icmp_ge_f (tgt := 63) d_Copy_doUpTo_19 (by decide) (nI_ge (by omega) (by omega)) ?_
    refine rw_aload_n d_Copy_doUpTo_22 rfl (by first | exact mm_ref_r _ | exact mm_ref_n | exact mm_ref_o _) ?_
    refine rw_get d_Copy_doUpTo_23 fF_Copy_15 r0 rfl ?_
    refine rw_aload_n d_Copy_doUpTo_26 rfl (by first | exact mm_ref_r _ | exact mm_ref_n | exact mm_ref_o _) ?_
    refine rw_get d_Copy_doUpTo_27 fF_Copy_28 r0 rfl ?_
    refine rw_bipush (v := 8) d_Copy_doUpTo_30 (by decide) ?_
    refine rw_irem d_Copy_doUpTo_32 (by decide) ?_
    rw [nI_rem8 (by omega)]
    refine rw_aload_n d_Copy_doUpTo_33 rfl (by first | exact mm_ref_r _ | exact mm_ref_n | exact mm_ref_o _) ?_
    refine rw_aload_n d_Copy_doUpTo_34 rfl (by first | exact mm_ref_r _ | exact mm_ref_n | exact mm_ref_o _) ?_
    refine rw_get d_Copy_doUpTo_35 fF_Copy_20 r0 rfl ?_
    refine rw_aload_n d_Copy_doUpTo_38 rfl (by first | exact mm_ref_r _ | exact mm_ref_n | exact mm_ref_o _) ?_
    refine rw_get d_Copy_doUpTo_39 fF_Copy_28 r0 rfl ?_
    refine rw_bipush (v := 8) d_Copy_doUpTo_42 (by decide) ?_
    refine rw_irem d_Copy_doUpTo_44 (by decide) ?_
    rw [nI_rem8 (by omega)]
    refine rw_aald d_Copy_doUpTo_45 r3 (by decide) rfl (vp_in8 k) ?_
    rw [nI_c8, hlk]
    refine rw_stk (st' := [.ref (ca k), .ref a, .int (nI (k % 8)), .ref (a + 2)]) rfl ?_
    refine rw_callV (kc := 0) (ks := 0) (rest := [.int (nI (k % 8)), .ref (a + 2)]) d_Copy_doUpTo_46 (c_perform hr (hA1 k (by omega)).2 (hA1 k (by omega)).1 t1 t2) mW_Copy_perform mL_Copy_44 mI_Copy_perform mE_Copy_perform ⟨by decide, by decide⟩ r0 rfl rfl rfl rfl (Nat.le_of_ble_eq_true rfl) (fun r M1 sz1 hq => ?_)
    obtain ⟨rfl, rfl, ⟨h', v', ⟨s0, s1, s2, s3⟩, s4, s5⟩, s6⟩ := hq
    refine rw_stk (st' := [.int (tA (cm k) (tab cm k)), .int (nI (k % 8)), .ref (a + 2)]) rfl ?_
    refine rw_iast d_Copy_doUpTo_49 s2 (vp_in8 k) ?_
    rw [nI_c8]
    refine rw_aload_n d_Copy_doUpTo_50 rfl (by first | exact mm_ref_r _ | exact mm_ref_n | exact mm_ref_o _) ?_
    refine rw_dup d_Copy_doUpTo_51 rfl ?_
    refine rw_get d_Copy_doUpTo_52 fF_Copy_28 (mup_get (by omega) s0) rfl ?_
    refine rw_iconst (v := 1) d_Copy_doUpTo_55 (by decide) ?_
    refine rw_iadd d_Copy_doUpTo_56 ?_
    refine rw_put d_Copy_doUpTo_57 (fP_Copy_28 _) (mup_get (by omega) s0) (Nat.le_of_ble_eq_true rfl) (by first | rfl | assumption | decide) (by first | rfl | decide) ?_
    refine rw_goto (tgt := 14) d_Copy_doUpTo_60 (by decide) ?_
    refine ih (k + 1) _ (by omega) (by omega) ⟨h', v', upd an (k % 8) (tA (cm k) (tab cm k)), lg, ⟨?_, ?_, ?_, ?_⟩, by omega, b2, b3, fun _ => ⟨by omega, by omega, c3, c4⟩, fun _ => ⟨s4, s5, ?_⟩⟩ ?_
    · rw [mup_self]
      show some (Sum.inr (1, [Value.int (nI k + 1), _, _, _, _, _])) = _
      rw [nI_1]
    · simp [mup, s1]
    · simp [mup]
    · simp [mup, s3]
    · intro i hi hi2
      by_cases q : i = k
      · subst q
        simp [upd, tAns]
      · have : i % 8 ≠ k % 8 := by omega
        simp only [upd, if_neg this]
        exact t3 i (by omega) (by omega)
    · exact Fr.mup (Fr.mup (fun q hq => (s6 q hq).trans (hF q hq)) (by omega) (by omega)) (by omega) (by omega)
theorem c_doUpTo {M : mm_M} {a d b lim : Nat} (hA : CmA M ca cm g) (hC : CpP 2 M ca cm g a d b) (hl : lim < 1000000) : CT l G Y_Copy_doUpTo ds_Copy_doUpTo (rm 2) [.ref a, .int (nI lim)] M sz (DuQ M sz ca cm g a d b lim) := by
  obtain ⟨h, v, an, lg, hr, b1, b2, b3, b4, b5⟩ := id hC
  obtain ⟨r0, r1, r2, r3⟩ := id hr
  refine CT.of (by decide) (Nat.le_of_ble_eq_true rfl) ?_
  refine rw_aload_n d_Copy_doUpTo_0 rfl (by first | exact mm_ref_r _ | exact mm_ref_n | exact mm_ref_o _) ?_
  refine rw_get d_Copy_doUpTo_1 fF_Copy_28 r0 rfl ?_
  refine rw_istore_n d_Copy_doUpTo_4 (by decide) rfl ?_
  refine rw_iload_n d_Copy_doUpTo_5 rfl ?_
  refine rw_aload_n d_Copy_doUpTo_6 rfl (by first | exact mm_ref_r _ | exact mm_ref_n | exact mm_ref_o _) ?_
  refine rw_get d_Copy_doUpTo_7 fF_Copy_35 r0 rfl ?_
  refine rw_callS (kc := 0) (ks := 0) (rest := []) d_Copy_doUpTo_10 (c_min (x := nI lim) (y := nI b)) mW_Math_min mL_Copy_38 mS_Math_min ⟨by decide, by decide⟩ rfl rfl (Nat.le_of_ble_eq_true rfl) (fun r M1 sz1 hq => ?_)
  obtain ⟨rfl, rfl, rfl⟩ := hq
  rw [nI_min (by omega) (by omega)]
  refine rw_stk (st' := [.int (nI (min lim b))]) rfl ?_
  refine rw_istore_n d_Copy_doUpTo_13 (by decide) rfl ?_
  refine rw_lv (lv' := [(0, .ref a), (2, .int (nI d)), (3, .int (nI (min lim b)))]) (by intro q hq; simp at hq; rcases hq with rfl | rfl | rfl <;> rfl) ?_
  exact doUpTo_loop hA hC (max d (min lim b) - d) d _ (by omega) (by omega) hC Fr.rf
end COPYP
