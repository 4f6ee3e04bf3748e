/-! Copy.append by numbers, Copy.follow. -/
section FOLLOW
variable {l : Launch} {G : mm_G} {sz : Nat} {ca : Nat → Nat} {cm : Nat → pCm} {g : Nat}
def ApQ (M : mm_M) (sz : Nat) (ca : Nat → Nat) (cm : Nat → pCm) (g a d b i : Nat) : Option Value → mm_M → Nat → Prop := fun r M' sz' => r = some (.int (bI (decide (i = b ∧ b < d + 8)))) ∧ sz' = sz ∧ CpP 2 M' ca cm g a d (if i = b ∧ b < d + 8 then b + 1 else b) ∧ Fr M M' a 4
theorem CT.post {l : Launch} {G : mm_G} {Y : mm_Y} {desc : String} {R : Room} {As : List Value} {M : mm_M} {sz : Nat} {QQ QQ' : Option Value → mm_M → Nat → Prop} (h : CT l G Y desc R As M sz QQ) (hq : ∀ r M' sz', QQ r M' sz' → QQ' r M' sz') : CT l G Y desc R As M sz QQ' := by
  unfold CT Met at h ⊢
  refine Jvm.Free.MetFree.mono h (fun _ _ z => z) (fun _ _ _ _ _ z => z) (fun a st o t _ hz => ?_)
  obtain ⟨⟨r, M', sz', h1, h2, h3⟩, h4⟩ := hz
  exact ⟨⟨r, M', sz', h1, hq _ _ _ h2, h3⟩, h4⟩
theorem c_appendP {M : mm_M} {a d b i : Nat} (hA : CmA M ca cm g) (hC : CpP 2 M ca cm g a d b) (hi : i < g) (hg : g ≤ 512) : CT l G Y_Copy_append ds_Copy_append (rm 1) [.ref a, .ref (ca i)] M sz (ApQ M sz ca cm g a d b i) := by
  obtain ⟨h, v, an, lg, hr, b1, b2, b3, b4, b5⟩ := id hC
  refine CT.post (c_append hr (hA i hi).2 (by omega) (by omega) (by omega)) (fun r M' sz' hq => ?_)
  obtain ⟨rfl, rfl, q1, q2, q3⟩ := hq
  refine ⟨rfl, rfl, ?_, q3⟩
  by_cases q : i = b ∧ b < d + 8
  · rw [if_pos q]
    obtain ⟨z1, z2, z3, z4⟩ := b4 (by omega)
    refine ⟨h, v, an, _, q1 q, b1, by omega, fun j hj => ?_, fun _ => ⟨by omega, by omega, by omega, fun k hk hk2 => ?_⟩, b5⟩
    · by_cases e : j = b % 8
      · subst e
        rw [va_up_self]
        exact Or.inr ⟨i, hi, rfl⟩
      · rw [va_up_ne _ _ e]
        exact b3 j hj
    · by_cases e : k = b
      · subst e
        rw [va_up_self, q.1]
      · rw [va_up_ne _ _ (by omega)]
        exact z4 k (by omega) (by omega)
  · rw [if_neg q, q2 q]
    exact hC
def FoQ (M : mm_M) (sz : Nat) (ca : Nat → Nat) (cm : Nat → pCm) (g a k n d b : Nat) (w : Bool) : Option Value → mm_M → Nat → Prop := fun r M' sz' => r = some (.int (bI (pFolC w k n d b))) ∧ sz' = sz ∧ CpP 2 M' ca cm g a (pFolD w k n d b) (pFolN w n b) ∧ Fr M M' a 4
theorem follow_loop {M : mm_M} {a o k n d b f : Nat} {w : Bool} (hA : CmA M ca cm g) (hS : CpP 2 M ca cm g a k n) (hO : CpP f M ca cm g o d b) (hf : 1 ≤ f) (hao : o + 4 ≤ a ∨ a + 4 ≤ o) (hg : g ≤ 512) (hre : b ≤ n + 8) :
    ∀ (m i ki : Nat) (M1 : mm_M) (c : Bool), m + i = max n b → n ≤ i → k ≤ ki → ki ≤ max k (min d i) → (i = n → ki = k) → CpP 2 M1 ca cm g a ki i → Fr M M1 a 4 → c = (decide (n < i) || decide (k < ki)) →
    RW l G Y_Copy_follow (rm 3) (mm_Z G (rm 3) (FoQ M sz ca cm g a k n d b w)) 0 0 31 [(0, .ref a), (1, .ref o), (3, .int (bI c)), (4, .int (nI i))] [] M1 sz := by
  obtain ⟨ho, vo, ano, lgo, hOr, b1, b2, b3, b4, -⟩ := id hO
  obtain ⟨z1, z2, z3, z4⟩ := b4 hf
  intro m
  induction m with
  | zero =>
    intro i ki M1 c hm hni hk hk2 hk3 hC hF hc
    have o0 := (hF o (by omega)).trans hOr.1
    have hA1 := hA.fr hS hF
    obtain ⟨h, v, an, lg, hr, e1, e2, -⟩ := id hC
    refine rw_iload d_Copy_follow_31 rfl ?_
    refine rw_aload_n d_Copy_follow_33 rfl (by first | exact mm_ref_r _ | exact mm_ref_n | exact mm_ref_o _) ?_
    refine rw_get d_Copy_follow_34 fF_Copy_35 o0 rfl ?_
    refine rw_icmp_ge_t (tgt := 74) d_Copy_follow_37 (by decide) (nI_le (by omega) (by omega)) ?_
    refine rw_aload_n d_Copy_follow_74 rfl (by first | exact mm_ref_r _ | exact mm_ref_n | exact mm_ref_o _) ?_
    refine rw_aload_n d_Copy_follow_75 rfl (by first | exact mm_ref_r _ | exact mm_ref_n | exact mm_ref_o _) ?_
    refine rw_get d_Copy_follow_76 fF_Copy_28 o0 rfl ?_
    refine rw_callV (kc := 0) (ks := 0) (rest := []) d_Copy_follow_79 (c_doUpTo hA1 hC (lim := d) (by omega)) mW_Copy_doUpTo mL_Copy_67 mI_Copy_doUpTo mE_Copy_doUpTo ⟨by decide, by decide⟩ hr.1 rfl rfl rfl rfl (Nat.le_of_ble_eq_true rfl) (fun r M1 sz1 hq => ?_)
    obtain ⟨rfl, rfl, q1, q2⟩ := hq
    refine rw_stk (st' := [.int (bI (decide (ki < min d i)))]) rfl ?_
    refine rw_iload_n d_Copy_follow_82 rfl ?_
    refine rw_ior d_Copy_follow_83 ?_
    rw [bI_or]
    refine rw_zret d_Copy_follow_84 rfl (narrow_bI _) ⟨?_, rfl, ?_, hF.trans q2⟩
    · congr 3
      unfold pFolC
      rw [if_neg (by omega), hc]
      by_cases y1 : n < b
      · simp [y1, show n < i by omega]
      · have hin : i = n := by omega
        have := hk3 hin
        simp [y1, hin, this, show max n b = n by omega]
    · have e3 : pFolD w k n d b = max ki (min d i) := by
        unfold pFolD
        rw [if_neg (by omega)]
        omega
      have e4 : pFolN w n b = i := by
        unfold pFolN
        rw [if_neg (by omega)]
        omega
      rw [e3, e4]
      exact q1
  | succ m ih =>
    intro i ki M1 c hm hni hk hk2 hk3 hC hF hc
    have o0 := (hF o (by omega)).trans hOr.1
    have hA1 := hA.fr hS hF
    obtain ⟨h, v, an, lg, hr, e1, e2, -⟩ := id hC
    refine rw_iload d_Copy_follow_31 rfl ?_
    refine rw_aload_n d_Copy_follow_33 rfl (by first | exact mm_ref_r _ | exact mm_ref_n | exact mm_ref_o _) ?_
    refine rw_get d_Copy_follow_34 fF_Copy_35 o0 rfl ?_
    refine rw_icmp_ge_f (tgt := 74) d_Copy_follow_37 (by decide) (nI_ge (by omega) (by omega)) ?_
    refine rw_iload_n d_Copy_follow_40 rfl ?_
    refine rw_aload_n d_Copy_follow_41 rfl (by first | exact mm_ref_r _ | exact mm_ref_n | exact mm_ref_o _) ?_
    refine rw_aload_n d_Copy_follow_42 rfl (by first | exact mm_ref_r _ | exact mm_ref_n | exact mm_ref_o _) ?_
    refine rw_get d_Copy_follow_43 fF_Copy_28 o0 rfl ?_
    refine rw_callV (kc := 0) (ks := 0) (rest := [.int (bI c)]) d_Copy_follow_46 (c_doUpTo hA1 hC (lim := d) (by omega)) mW_Copy_doUpTo mL_Copy_67 mI_Copy_doUpTo mE_Copy_doUpTo ⟨by decide, by decide⟩ hr.1 rfl rfl rfl rfl (Nat.le_of_ble_eq_true rfl) (fun r M1 sz1 hq => ?_)
    obtain ⟨rfl, rfl, q1, q2⟩ := hq
    refine rw_stk (st' := [.int (bI (decide (ki < min d i))), .int (bI c)]) rfl ?_
    refine rw_ior d_Copy_follow_49 ?_
    rw [bI_or]
    have hF2 := hF.trans q2
    have p0 := (hF2 o (by omega)).trans hOr.1
    have p3 := (hF2 (o + 3) (by omega)).trans hOr.2.2.2
    have hA2 := hA.fr hS hF2
    obtain ⟨h', v', an', lg', hr', e1', e2', -⟩ := id q1
    refine rw_istore_n d_Copy_follow_50 (by decide) rfl ?_
    refine rw_iload_n d_Copy_follow_51 rfl ?_
    refine rw_aload_n d_Copy_follow_52 rfl (by first | exact mm_ref_r _ | exact mm_ref_n | exact mm_ref_o _) ?_
    refine rw_aload_n d_Copy_follow_53 rfl (by first | exact mm_ref_r _ | exact mm_ref_n | exact mm_ref_o _) ?_
    refine rw_get d_Copy_follow_54 fF_Copy_20 p0 rfl ?_
    refine rw_iload d_Copy_follow_57 rfl ?_
    refine rw_bipush (v := 8) d_Copy_follow_59 (by decide) ?_
    refine rw_irem d_Copy_follow_61 (by decide) ?_
    rw [nI_rem8 (by omega)]
    refine rw_aald d_Copy_follow_62 p3 (by decide) rfl (vp_in8 i) ?_
    rw [nI_c8, z4 i (by omega) (by omega)]
    refine rw_stk (st' := [.ref (ca i), .ref a, .int (bI (c || decide (ki < min d i)))]) rfl ?_
    refine rw_callV (kc := 0) (ks := 0) (rest := [.int (bI (c || decide (ki < min d i)))]) d_Copy_follow_63 (c_appendP (i := i) hA2 q1 (by omega) hg) mW_Copy_append mL_Copy_70 mI_Copy_append mE_Copy_append ⟨by decide, by decide⟩ hr'.1 rfl rfl rfl rfl (Nat.le_of_ble_eq_true rfl) (fun r2 M2 sz2 hq2 => ?_)
    obtain ⟨rfl, rfl, q3, q4⟩ := hq2
    have hyes : i = i ∧ i < max ki (min d i) + 8 := ⟨rfl, by omega⟩
    rw [if_pos hyes] at q3
    rw [decide_eq_true hyes]
    refine rw_stk (st' := [.int (bI true), .int (bI (c || decide (ki < min d i)))]) rfl ?_
    refine rw_ior d_Copy_follow_66 ?_
    rw [bI_or, Bool.or_true]
    refine rw_istore_n d_Copy_follow_67 (by decide) rfl ?_
    refine rw_iinc d_Copy_follow_68 (by decide) rfl rfl rfl ?_
    refine rw_lv (lv' := [(0, .ref a), (1, .ref o), (3, .int (bI true)), (4, .int (nI (i + 1)))]) (by rw [← nI_1]; intro q hq; simp at hq; rcases hq with rfl | rfl | rfl | rfl <;> rfl) ?_
    refine rw_goto (tgt := 31) d_Copy_follow_71 (by decide) ?_
    exact ih (i + 1) (max ki (min d i)) _ true (by omega) (by omega) (by omega) (by omega) (by omega) q3 (hF2.trans q4) (by simp [show n < i + 1 by omega])
theorem c_follow {M : mm_M} {a o k n d b f : Nat} {w : Bool} (hA : CmA M ca cm g) (hS : CpP 2 M ca cm g a k n) (hO : CpP f M ca cm g o d b) (hf : 1 ≤ f) (hw : w = true → f = 2) (hao : o + 4 ≤ a ∨ a + 4 ≤ o) (hg : g ≤ 512) : CT l G Y_Copy_follow ds_Copy_follow (rm 3) [.ref a, .ref o, .int (bI w)] M sz (FoQ M sz ca cm g a k n d b w) := by
  obtain ⟨ho, vo, ano, lgo, hOr, b1, b2, b3, b4, b5⟩ := id hO
  obtain ⟨h, v, an, lg, hr, e1, e2, -⟩ := id hS
  refine CT.of (by decide) (Nat.le_of_ble_eq_true rfl) ?_
  refine rw_aload_n d_Copy_follow_0 rfl (by first | exact mm_ref_r _ | exact mm_ref_n | exact mm_ref_o _) ?_
  refine rw_aload_n d_Copy_follow_1 rfl (by first | exact mm_ref_r _ | exact mm_ref_n | exact mm_ref_o _) ?_
  refine rw_get d_Copy_follow_2 fF_Copy_35 hr.1 rfl ?_
  refine rw_callV (kc := 0) (ks := 0) (rest := []) d_Copy_follow_5 (c_reaches (o := n) hOr.1 (by omega) (by omega)) mW_Copy_reachesBackTo mL_Copy_59 mI_Copy_reachesBackTo mE_Copy_reachesBackTo ⟨by decide, by decide⟩ hOr.1 rfl rfl rfl rfl (Nat.le_of_ble_eq_true rfl) (fun r M1 sz1 hq => ?_)
  obtain ⟨rfl, rfl, rfl⟩ := hq
  refine rw_stk (st' := [.int (bI (decide (b ≤ n + 8)))]) rfl ?_
  by_cases q : b ≤ n + 8
  · rw [decide_eq_true q]
    refine rw_if_ne_t (tgt := 23) d_Copy_follow_8 (by decide) (by decide) ?_
    refine rw_iconst (v := 0) d_Copy_follow_23 (by decide) ?_
    refine rw_istore_n d_Copy_follow_24 (by decide) rfl ?_
    refine rw_aload_n d_Copy_follow_25 rfl (by first | exact mm_ref_r _ | exact mm_ref_n | exact mm_ref_o _) ?_
    refine rw_get d_Copy_follow_26 fF_Copy_35 hr.1 rfl ?_
    refine rw_istore d_Copy_follow_29 (by decide) rfl ?_
    refine rw_lv (lv' := [(0, .ref a), (1, .ref o), (3, .int (bI false)), (4, .int (nI n))]) (by intro q hq; simp at hq; rcases hq with rfl | rfl | rfl | rfl <;> rfl) ?_
    exact follow_loop hA hS hO hf hao hg q (max n b - n) n k _ false (by omega) (by omega) (by omega) (by omega) (fun _ => rfl) hS Fr.rf (by simp)
  · rw [decide_eq_false q]
    refine rw_if_ne_f (tgt := 23) d_Copy_follow_8 (by decide) (by decide) ?_
    refine rw_iload_n d_Copy_follow_11 rfl ?_
    cases w with
    | true =>
      refine rw_if_eq_f (tgt := 21) d_Copy_follow_12 (by decide) (by decide) ?_
      refine rw_aload_n d_Copy_follow_15 rfl (by first | exact mm_ref_r _ | exact mm_ref_n | exact mm_ref_o _) ?_
      refine rw_aload_n d_Copy_follow_16 rfl (by first | exact mm_ref_r _ | exact mm_ref_n | exact mm_ref_o _) ?_
      refine rw_iconst (v := 1) d_Copy_follow_17 (by decide) ?_
      refine rw_callV (kc := 0) (ks := 0) (rest := []) d_Copy_follow_18 (c_copyFrom (w := true) hA (hS.le (by omega)) hO hao) mW_Copy_copyFrom mL_Copy_63 mI_Copy_copyFrom mE_Copy_copyFrom ⟨by decide, by decide⟩ hr.1 rfl rfl rfl rfl (Nat.le_of_ble_eq_true rfl) (fun r2 M2 sz2 hq2 => ?_)
      obtain ⟨rfl, rfl, q1, q2⟩ := hq2
      refine rw_stk (st' := []) rfl ?_
      refine rw_iload_n d_Copy_follow_21 rfl ?_
      refine rw_zret d_Copy_follow_22 rfl rfl ⟨?_, rfl, ?_, q2⟩
      · unfold pFolC
        rw [if_pos (by omega)]
      · have e : n + 8 < b := by omega
        have := hw rfl
        subst this
        simp only [pFolD, pFolN, if_pos e]
        exact q1
    | false =>
      refine rw_if_eq_t (tgt := 21) d_Copy_follow_12 (by decide) (rfl) ?_
      refine rw_iload_n d_Copy_follow_21 rfl ?_
      refine rw_zret d_Copy_follow_22 rfl rfl ⟨?_, rfl, ?_, Fr.rf⟩
      · unfold pFolC
        rw [if_pos (by omega)]
      · have e : n + 8 < b := by omega
        simp only [pFolD, pFolN, if_pos e]
        exact hS
end FOLLOW
