/-! Copy.perform: a command done. -/
section PERF
variable {l : Launch} {G : mm_G} {M : mm_M} {sz : Nat}
/-- what perform leaves -/
def PfQ (M : mm_M) (sz a d b : Nat) (an : Nat → Int32) (lg : Nat → Option Nat) (c : pCm) (t : pT) : Option Value → mm_M → Nat → Prop := fun r M' sz' => r = some (.int (tA c t)) ∧ sz' = sz ∧ (∃ h' v', CpR M' a d b h' v' an lg ∧ hOk h' (tS c t).1 ∧ ∀ k, k < 40 → v' k = (tS c t).2 k) ∧ ∀ q, q < a ∨ a + 4 ≤ q → M' q = M q
/-- from the switch on -/
theorem perf_tail {a d b w i kd k : Nat} {x : Int32} {t : pT} {h : Int64} {v an : Nat → Int32} {lg : Nat → Option Nat} (h0 : M a = some (cpO a d b h)) (h1 : M (a + 1) = some (aI 40 v)) (h2 : M (a + 2) = some (aI 8 an)) (h3 : M (a + 3) = some (aR 3 8 lg)) (hw : M w = some (cmO i (kd, k, x))) (c1 : kd ≤ 4) (c2 : k < 40) (c3 : kd = 4 → ∃ j, j < 40 ∧ x = nI j) (hh : hOk h t.1) (hv : ∀ k, k < 40 → v k = t.2 k) :
    RW l G Y_Copy_perform (rm 1) (mm_Z G (rm 1) (PfQ M sz a d b an lg (kd, k, x) t)) 0 0 38 [(0, .ref a), (1, .ref w), (2, .int (nI k)), (3, .int x), (4, .long (bt k))] [.int (bI (t.1 k))] M sz := by
  have hk32 : vp_in (nI k) 40 := vp_in_nI c2 (by omega)
  have hkc : (nI k).toNatClampNeg = k := nI_c (by omega)
  have hua : ∀ (y : Int32) (j : Nat), j < 40 → upd v k y j = va_up t.2 k y j := fun y j hj => by
    by_cases q : j = k
    · simp [upd, va_up, q]
    · simp [upd, va_up, q, hv j hj]
  refine rw_istore d_Copy_perform_38 (by decide) rfl ?_
  refine rw_aload_n d_Copy_perform_40 rfl (by first | exact mm_ref_r _ | exact mm_ref_n | exact mm_ref_o _) ?_
  refine rw_get d_Copy_perform_41 fF_Copy_54 hw rfl ?_
  rcases (show kd = 0 ∨ kd = 1 ∨ kd = 2 ∨ kd = 3 ∨ kd = 4 by omega) with rfl | rfl | rfl | rfl | rfl
  · refine rw_stk (st' := [.int (nI 0)]) rfl ?_
    refine rw_tabIn (off := 36) (tgt := 80) d_Copy_perform_44 (by decide) (by decide) (by decide) (by decide) ?_
    refine rw_aload_n d_Copy_perform_80 rfl (by first | exact mm_ref_r _ | exact mm_ref_n | exact mm_ref_o _) ?_
    refine rw_dup d_Copy_perform_81 rfl ?_
    refine rw_get d_Copy_perform_82 fF_Copy_24 h0 rfl ?_
    refine rw_lload d_Copy_perform_85 rfl ?_
    refine rw_lor d_Copy_perform_87 ?_
    refine rw_put d_Copy_perform_88 (fP_Copy_24 _) h0 (Nat.le_of_ble_eq_true rfl) (by first | rfl | assumption | decide) (by first | rfl | decide) ?_
    refine rw_aload_n d_Copy_perform_91 rfl (by first | exact mm_ref_r _ | exact mm_ref_n | exact mm_ref_o _) ?_
    refine rw_get d_Copy_perform_92 fF_Copy_9 (mup_self _ _ _) rfl ?_
    refine rw_iload_n d_Copy_perform_95 rfl ?_
    refine rw_iload_n d_Copy_perform_96 rfl ?_
    refine rw_iast d_Copy_perform_97 (mup_get (by omega) h1) hk32 ?_
    rw [hkc]
    refine rw_iload d_Copy_perform_98 rfl ?_
    refine rw_iret d_Copy_perform_100 rfl ⟨rfl, rfl, ⟨h ||| bt k, upd v k x, ⟨?_, ?_, ?_, ?_⟩, hOk_set c2 hh, hua x⟩, fun q hq => ?_⟩
    · simp [mup]
    · simp [mup]
    · simp [mup, h2]
    · simp [mup, h3]
    · rw [mup_ne _ _ (by omega), mup_ne _ _ (by omega)]
  · refine rw_stk (st' := [.int (nI 1)]) rfl ?_
    refine rw_tabIn (off := 57) (tgt := 101) d_Copy_perform_44 (by decide) (by decide) (by decide) (by decide) ?_
    refine rw_aload_n d_Copy_perform_101 rfl (by first | exact mm_ref_r _ | exact mm_ref_n | exact mm_ref_o _) ?_
    refine rw_dup d_Copy_perform_102 rfl ?_
    refine rw_get d_Copy_perform_103 fF_Copy_24 h0 rfl ?_
    refine rw_lload d_Copy_perform_106 rfl ?_
    refine rw_ldc2 d_Copy_perform_108 kC_Copy_57 ?_
    refine rw_lxor d_Copy_perform_111 ?_
    refine rw_land d_Copy_perform_112 ?_
    refine rw_put d_Copy_perform_113 (fP_Copy_24 _) h0 (Nat.le_of_ble_eq_true rfl) (by first | rfl | assumption | decide) (by first | rfl | decide) ?_
    refine rw_aload_n d_Copy_perform_116 rfl (by first | exact mm_ref_r _ | exact mm_ref_n | exact mm_ref_o _) ?_
    refine rw_get d_Copy_perform_117 fF_Copy_9 (mup_self _ _ _) rfl ?_
    refine rw_iload_n d_Copy_perform_120 rfl ?_
    refine rw_iconst (v := 0) d_Copy_perform_121 (by decide) ?_
    refine rw_iast d_Copy_perform_122 (mup_get (by omega) h1) hk32 ?_
    rw [hkc]
    refine rw_iload d_Copy_perform_123 rfl ?_
    refine rw_iret d_Copy_perform_125 rfl ⟨rfl, rfl, ⟨h &&& (bt k ^^^ (-1)), upd v k 0, ⟨?_, ?_, ?_, ?_⟩, hOk_clear c2 hh, hua 0⟩, fun q hq => ?_⟩
    · simp [mup]
    · simp [mup]
    · simp [mup, h2]
    · simp [mup, h3]
    · rw [mup_ne _ _ (by omega), mup_ne _ _ (by omega)]
  · refine rw_stk (st' := [.int (nI 2)]) rfl ?_
    refine rw_tabIn (off := 166) (tgt := 210) d_Copy_perform_44 (by decide) (by decide) (by decide) (by decide) ?_
    refine rw_aload_n d_Copy_perform_210 rfl (by first | exact mm_ref_r _ | exact mm_ref_n | exact mm_ref_o _) ?_
    refine rw_get d_Copy_perform_211 fF_Copy_9 h0 rfl ?_
    refine rw_iload_n d_Copy_perform_214 rfl ?_
    refine rw_iald d_Copy_perform_215 h1 hk32 ?_
    rw [hkc]
    exact rw_iret d_Copy_perform_216 rfl ⟨by rw [hv k c2]; rfl, rfl, ⟨h, v, ⟨h0, h1, h2, h3⟩, hh, hv⟩, fun _ _ => rfl⟩
  · refine rw_stk (st' := [.int (nI 3)]) rfl ?_
    refine rw_tabIn (off := 82) (tgt := 126) d_Copy_perform_44 (by decide) (by decide) (by decide) (by decide) ?_
    refine rw_aload_n d_Copy_perform_126 rfl (by first | exact mm_ref_r _ | exact mm_ref_n | exact mm_ref_o _) ?_
    refine rw_dup d_Copy_perform_127 rfl ?_
    refine rw_get d_Copy_perform_128 fF_Copy_24 h0 rfl ?_
    refine rw_lload d_Copy_perform_131 rfl ?_
    refine rw_lor d_Copy_perform_133 ?_
    refine rw_put d_Copy_perform_134 (fP_Copy_24 _) h0 (Nat.le_of_ble_eq_true rfl) (by first | rfl | assumption | decide) (by first | rfl | decide) ?_
    refine rw_aload_n d_Copy_perform_137 rfl (by first | exact mm_ref_r _ | exact mm_ref_n | exact mm_ref_o _) ?_
    refine rw_get d_Copy_perform_138 fF_Copy_9 (mup_self _ _ _) rfl ?_
    refine rw_iload_n d_Copy_perform_141 rfl ?_
    refine rw_dup2 d_Copy_perform_142 rfl rfl ?_
    refine rw_iald d_Copy_perform_143 (mup_get (by omega) h1) hk32 ?_
    refine rw_iload_n d_Copy_perform_144 rfl ?_
    refine rw_iadd d_Copy_perform_145 ?_
    refine rw_iast d_Copy_perform_146 (mup_get (by omega) h1) hk32 ?_
    refine rw_aload_n d_Copy_perform_147 rfl (by first | exact mm_ref_r _ | exact mm_ref_n | exact mm_ref_o _) ?_
    refine rw_get d_Copy_perform_148 fF_Copy_9 (mup_get (by omega) (mup_self _ _ _)) rfl ?_
    refine rw_iload_n d_Copy_perform_151 rfl ?_
    refine rw_iald d_Copy_perform_152 (mup_self _ _ _) hk32 ?_
    rw [hkc]
    have hvk : v k = t.2 k := hv k c2
    refine rw_iret d_Copy_perform_153 rfl ⟨?_, rfl, ⟨h ||| bt k, upd v k (v k + x), ⟨?_, ?_, ?_, ?_⟩, hOk_set c2 hh, ?_⟩, fun q hq => ?_⟩
    · simp [upd, tA, hvk]
    · simp [mup]
    · simp [mup]
    · simp [mup, h2]
    · simp [mup, h3]
    · rw [hvk]
      exact hua (t.2 k + x)
    · rw [mup_ne _ _ (by omega), mup_ne _ _ (by omega)]
  · obtain ⟨j, hj, rfl⟩ := c3 rfl
    have hj32 : vp_in (nI j) 40 := vp_in_nI hj (by omega)
    have hjc : (nI j).toNatClampNeg = j := nI_c (by omega)
    refine rw_stk (st' := [.int (nI 4)]) rfl ?_
    refine rw_tabIn (off := 110) (tgt := 154) d_Copy_perform_44 (by decide) (by decide) (by decide) (by decide) ?_
    refine rw_iload_n d_Copy_perform_154 rfl ?_
    refine rw_iload_n d_Copy_perform_155 rfl ?_
    refine rw_icmp_eq (tgt := 207) d_Copy_perform_156 (by decide) (fun q => ?_) (fun q => ?_)
    · refine rw_iload d_Copy_perform_207 rfl ?_
      have e1 : tS (4, k, nI j) t = t := by simp [tS, q]
      refine rw_iret d_Copy_perform_209 rfl ⟨rfl, rfl, ⟨h, v, ⟨h0, h1, h2, h3⟩, ?_, ?_⟩, fun _ _ => rfl⟩
      · rw [e1]
        exact hh
      · rw [e1]
        exact hv
    · have hkj : k ≠ j := fun z => q (by rw [z])
      have e1 : tS (4, k, nI j) t = (va_up (va_up t.1 k false) j (t.1 k), va_up (va_up t.2 j (t.2 k)) k 0) := by simp [tS, q, hjc]
      refine rw_aload_n d_Copy_perform_159 rfl (by first | exact mm_ref_r _ | exact mm_ref_n | exact mm_ref_o _) ?_
      refine rw_aload_n d_Copy_perform_160 rfl (by first | exact mm_ref_r _ | exact mm_ref_n | exact mm_ref_o _) ?_
      refine rw_get d_Copy_perform_161 fF_Copy_24 h0 rfl ?_
      refine rw_lload d_Copy_perform_164 rfl ?_
      refine rw_ldc2 d_Copy_perform_166 kC_Copy_57 ?_
      refine rw_lxor d_Copy_perform_169 ?_
      refine rw_land d_Copy_perform_170 ?_
      refine rw_lconst (v := 1) d_Copy_perform_171 (by decide) ?_
      refine rw_iload_n d_Copy_perform_172 rfl ?_
      refine rw_lshl d_Copy_perform_173 rfl ?_
      refine rw_ldc2 d_Copy_perform_174 kC_Copy_57 ?_
      refine rw_lxor d_Copy_perform_177 ?_
      refine rw_land d_Copy_perform_178 ?_
      refine rw_iload d_Copy_perform_179 rfl ?_
      refine rw_i2l d_Copy_perform_181 rfl ?_
      refine rw_iload_n d_Copy_perform_182 rfl ?_
      refine rw_lshl d_Copy_perform_183 rfl ?_
      refine rw_lor d_Copy_perform_184 ?_
      refine rw_put d_Copy_perform_185 (fP_Copy_24 _) h0 (Nat.le_of_ble_eq_true rfl) (by first | rfl | assumption | decide) (by first | rfl | decide) ?_
      refine rw_aload_n d_Copy_perform_188 rfl (by first | exact mm_ref_r _ | exact mm_ref_n | exact mm_ref_o _) ?_
      refine rw_get d_Copy_perform_189 fF_Copy_9 (mup_self _ _ _) rfl ?_
      refine rw_iload_n d_Copy_perform_192 rfl ?_
      refine rw_aload_n d_Copy_perform_193 rfl (by first | exact mm_ref_r _ | exact mm_ref_n | exact mm_ref_o _) ?_
      refine rw_get d_Copy_perform_194 fF_Copy_9 (mup_self _ _ _) rfl ?_
      refine rw_iload_n d_Copy_perform_197 rfl ?_
      refine rw_iald d_Copy_perform_198 (mup_get (by omega) h1) hk32 ?_
      refine rw_iast d_Copy_perform_199 (mup_get (by omega) h1) hj32 ?_
      refine rw_aload_n d_Copy_perform_200 rfl (by first | exact mm_ref_r _ | exact mm_ref_n | exact mm_ref_o _) ?_
      refine rw_get d_Copy_perform_201 fF_Copy_9 (mup_get (by omega) (mup_self _ _ _)) rfl ?_
      refine rw_iload_n d_Copy_perform_204 rfl ?_
      refine rw_iconst (v := 0) d_Copy_perform_205 (by decide) ?_
      refine rw_iast d_Copy_perform_206 (mup_self _ _ _) hk32 ?_
      refine rw_iload d_Copy_perform_207 rfl ?_
      rw [hkc, hjc]
      have hb : (bI (t.1 k)).toInt64 <<< ((nI j).toInt64 &&& 63) = if t.1 k then bt j else 0 := by
        cases t.1 k
        · exact b0_bit j hj
        · exact b1_bit j hj
      refine rw_iret d_Copy_perform_209 rfl ⟨rfl, rfl, ⟨h &&& (bt k ^^^ (-1)) &&& (bt j ^^^ (-1)) ||| (bI (t.1 k)).toInt64 <<< ((nI j).toInt64 &&& 63), upd (upd v j (v k)) k 0, ⟨?_, ?_, ?_, ?_⟩, ?_, ?_⟩, fun q hq => ?_⟩
      · simp [mup]
        rfl
      · simp [mup]
      · simp [mup, h2]
      · simp [mup, h3]
      · rw [e1]
        exact hOk_move c2 hj hh (t.1 k) _ hb
      · rw [e1]
        intro z hz
        by_cases q1 : z = k
        · simp [upd, va_up, q1]
        · by_cases q2 : z = j
          · simp [upd, va_up, q2, hv k c2]
          · simp [upd, va_up, q1, q2, hv z hz]
      · rw [mup_ne _ _ (by omega), mup_ne _ _ (by omega), mup_ne _ _ (by omega)]
theorem c_perform {a d b w i : Nat} {c : pCm} {t : pT} {h : Int64} {v an : Nat → Int32} {lg : Nat → Option Nat} (hC : CpR M a d b h v an lg) (hw : M w = some (cmO i c)) (hc : cOk c) (hh : hOk h t.1) (hv : ∀ k, k < 40 → v k = t.2 k) :
    CT l G Y_Copy_perform ds_Copy_perform (rm 1) [.ref a, .ref w] M sz (PfQ M sz a d b an lg c t) := by
  obtain ⟨h0, h1, h2, h3⟩ := hC
  obtain ⟨kd, k, x⟩ := c
  obtain ⟨c1, c2, c3⟩ := hc
  simp only at c1 c2 c3
  refine CT.of (by decide) (Nat.le_of_ble_eq_true rfl) ?_
  refine rw_aload_n d_Copy_perform_0 rfl (by first | exact mm_ref_r _ | exact mm_ref_n | exact mm_ref_o _) ?_
  refine rw_ifnonnull_t (tgt := 6) d_Copy_perform_1 (by decide) ?_
  refine rw_aload_n d_Copy_perform_6 rfl (by first | exact mm_ref_r _ | exact mm_ref_n | exact mm_ref_o _) ?_
  refine rw_get d_Copy_perform_7 fF_Copy_48 hw rfl ?_
  refine rw_istore_n d_Copy_perform_10 (by decide) rfl ?_
  refine rw_aload_n d_Copy_perform_11 rfl (by first | exact mm_ref_r _ | exact mm_ref_n | exact mm_ref_o _) ?_
  refine rw_get d_Copy_perform_12 fF_Copy_51 hw rfl ?_
  refine rw_istore_n d_Copy_perform_15 (by decide) rfl ?_
  refine rw_lconst (v := 1) d_Copy_perform_16 (by decide) ?_
  refine rw_iload_n d_Copy_perform_17 rfl ?_
  refine rw_lshl d_Copy_perform_18 rfl ?_
  refine rw_stk (st' := [.long (bt k)]) rfl ?_
  refine rw_lstore d_Copy_perform_19 (by decide) rfl ?_
  refine rw_aload_n d_Copy_perform_21 rfl (by first | exact mm_ref_r _ | exact mm_ref_n | exact mm_ref_o _) ?_
  refine rw_get d_Copy_perform_22 fF_Copy_24 h0 rfl ?_
  refine rw_lload d_Copy_perform_25 rfl ?_
  refine rw_land d_Copy_perform_27 ?_
  refine rw_lconst (v := 0) d_Copy_perform_28 (by decide) ?_
  refine rw_lcmp d_Copy_perform_29 ?_
  have had : bI (t.1 k) = if h &&& bt k = 0 then 0 else 1 := by
    rw [← hh k c2]
    by_cases q : h &&& bt k = 0
    · rw [if_pos q, (hOk_and c2).mp q]
      rfl
    · rw [if_neg q]
      have := fun z => q ((hOk_and c2).mpr z)
      rw [show h.toBitVec.getLsbD k = true by simpa using this]
      rfl
  refine rw_lv (lv' := [(0, .ref a), (1, .ref w), (2, .int (nI k)), (3, .int x), (4, .long (bt k))]) (by intro q hq; simp at hq; rcases hq with rfl | rfl | rfl | rfl | rfl <;> rfl) ?_
  refine rw_if_eq (tgt := 37) d_Copy_perform_30 (by decide) (fun q => ?_) (fun q => ?_)
  · refine rw_iconst (v := 0) d_Copy_perform_37 (by decide) ?_
    rw [lg_cmp_eq] at q
    refine rw_stk (st' := [.int (bI (t.1 k))]) (by rw [had, if_pos q]) ?_
    exact perf_tail h0 h1 h2 h3 hw c1 c2 c3 hh hv
  · refine rw_iconst (v := 1) d_Copy_perform_33 (by decide) ?_
    refine rw_goto (tgt := 38) d_Copy_perform_34 (by decide) ?_
    rw [lg_cmp_eq] at q
    refine rw_stk (st' := [.int (bI (t.1 k))]) (by rw [had, if_neg q]) ?_
    exact perf_tail h0 h1 h2 h3 hw c1 c2 c3 hh hv
end PERF
