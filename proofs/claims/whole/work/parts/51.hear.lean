/-! Node.hear. -/
section HEAR
variable {l : Launch} {G : mm_G} {sz : Nat} {ca : Nat → Nat} {cm : Nat → pCm} {g : Nat} {E : pE} {pl p a n : Nat} {x : pN} {post : List pMsg}
/-- locals of hear -/
abbrev hrL (a q : Nat) : List (Nat × Value) := [(0, .ref a), (1, .ref q)]
theorem NdP.two {M : mm_M} (h : NdP M ca cm g E pl p a n x) {e : va_E} {y : pN} (hy : pBd y) (he : e = ndO a n pl p y) (h4 : ∀ j, 4 ≤ j → y j = x j) : NdP (mup M a e) ca cm g E pl p a n y := by
  obtain ⟨h0, h1, h2, h3, -⟩ := h
  refine ⟨by rw [mup_self, he], ?_, ?_, ?_, hy⟩
  · rw [h4 4 (by omega), h4 5 (by omega), h4 6 (by omega)]
    exact h1.kept (fun y y1 y2 => mup_ne _ _ (by omega))
  · rw [h4 7 (by omega), h4 8 (by omega), h4 9 (by omega)]
    exact h2.kept (fun y y1 y2 => mup_ne _ _ (by omega))
  · exact (h3.kept (fun y y1 y2 => mup_ne _ _ (by omega))).same (h4 10 (by omega)) (h4 11 (by omega)) (fun m hm => ⟨h4 _ (by omega), h4 _ (by omega), h4 _ (by omega)⟩)
set_option maxRecDepth 100000 in
/-- FETCH: the whole copy goes back -/
theorem hear_fetch {M : mm_M} {q f : Nat} {kv : Value} {t e s en dn nu an : Int32} {cv : Value} (hN : NdP M ca cm g E pl p a n x) (hS : SyP G M ca cm g E pl p post) (hpa : p + 328 ≤ a) (hn : n < eN E) (hm : M q = some (msO q kv (gI f) t e s en dn nu an cv)) :
    RW l G Y_Node_hear (rm 5) (mm_Z G (rm 5) (NdQ G M sz ca cm g E pl p a n (pu x 3 1) (pSend post [(8, n, f, x 4, x 6, x 5)]))) 0 0 125 (hrL a q) [] M sz := by
  obtain ⟨h0, h1, h2, h3, h4⟩ := id hN
  obtain ⟨hP, hA, hpl, hlt, hN7, -⟩ := id hS
  have egn : nI n = gI n := by rw [gI, if_neg (by omega)]
  obtain ⟨hh, hc0⟩ := h1.2.obj
  refine rw_aload_n d_Node_hear_125 rfl (by first | exact mm_ref_r _ | exact mm_ref_n | exact mm_ref_o _) ?_
  refine rw_get d_Node_hear_126 fF_Node_33 h0 rfl ?_
  refine rw_kind (i := 8) (by decide) fS_Node_133 d_Node_hear_129 ?_
  refine rw_aload_n d_Node_hear_132 rfl (by first | exact mm_ref_r _ | exact mm_ref_n | exact mm_ref_o _) ?_
  refine rw_get d_Node_hear_133 fF_Node_25 h0 rfl ?_
  refine rw_aload_n d_Node_hear_136 rfl (by first | exact mm_ref_r _ | exact mm_ref_n | exact mm_ref_o _) ?_
  refine rw_get d_Node_hear_137 fF_Node_121 hm rfl ?_
  refine rw_aload_n d_Node_hear_140 rfl (by first | exact mm_ref_r _ | exact mm_ref_n | exact mm_ref_o _) ?_
  refine rw_get d_Node_hear_141 fF_Node_12 h0 rfl ?_
  refine rw_get d_Node_hear_144 fF_Node_103 h1.1 rfl ?_
  refine rw_stk (st' := [.int (nI (x 4)), .int (gI f), .int (gI n), .ref (gad G 8), .ref p]) (by rw [← egn]) ?_
  refine rw_callV (kc := 0) (ks := 0) (rest := []) d_Node_hear_147 (c_send (k := 8) (f := n) (t := f) (e := x 4) hP) mW_Post_send mL_Node_136 mI_Post_send mE_Post_send ⟨by decide, by decide⟩ hP.choose_spec.choose_spec.choose_spec.1 rfl rfl rfl rfl (Nat.le_of_ble_eq_true rfl) (fun r M2 sz2 hq => ?_)
  obtain ⟨rfl, q1, j, hj, rfl, ⟨s', en', dn', nu', a2, cv', d, b, w1, w2, w3⟩, q2⟩ := hq
  have hN2 := hN.kept (M' := M2) (fun y y1 y2 => q1 y (by omega))
  have hA2 := hA.post hP q1
  refine rw_stk (st' := [.ref (p + 3 + 5 * j)]) rfl ?_
  refine rw_get d_Node_hear_150 fF_Node_142 w1 rfl ?_
  refine rw_aload_n d_Node_hear_153 rfl (by first | exact mm_ref_r _ | exact mm_ref_n | exact mm_ref_o _) ?_
  refine rw_get d_Node_hear_154 fF_Node_12 hN2.1 rfl ?_
  refine rw_get d_Node_hear_157 fF_Node_146 hN2.2.1.1 rfl ?_
  refine rw_iconst (v := 1) d_Node_hear_160 (by decide) ?_
  obtain ⟨hh2, hw2⟩ := w3.obj
  refine rw_callV (kc := 0) (ks := 0) (rest := []) d_Node_hear_161 (c_copyFrom (w := true) (f := 2) hA2 w3 hN2.2.1.2 (by omega)) mW_Copy_copyFrom mL_Node_147 mI_Copy_copyFrom mE_Copy_copyFrom ⟨by decide, by decide⟩ hw2 rfl rfl rfl rfl (Nat.le_of_ble_eq_true rfl) (fun r M3 sz3 hq => ?_)
  obtain ⟨rfl, rfl, q3, q4⟩ := hq
  refine rw_stk (st' := []) rfl ?_
  have hF3 : Fr M M3 p 328 := q1.trans (q4.wider (by omega) (by omega))
  have hN3 := hN.kept (M' := M3) (fun y y1 y2 => hF3 y (by omega))
  have hP3 := q2 M3 (8, n, f, x 4, x 6, x 5) (q4.wider (by omega) (by omega)) ⟨s', en', dn', nu', a2, cv', x 5, x 6, (q4 _ (by omega)).trans w1, w2, q3.le (by omega), (fun z => by cases z), (fun z => by cases z), (fun z => by cases z), (fun z => by cases z), (fun z => by cases z), fun _ => q3⟩
  have hS3 := hS.sent hP3 hF3
  refine rw_aload_n d_Node_hear_164 rfl (by first | exact mm_ref_r _ | exact mm_ref_n | exact mm_ref_o _) ?_
  refine rw_iconst (v := 1) d_Node_hear_165 (by decide) ?_
  refine rw_put d_Node_hear_166 (fP_Node_82 _) hN3.1 (Nat.le_of_ble_eq_true rfl) (by first | rfl | assumption | decide) (by first | rfl | assumption | decide) ?_
  refine rw_goto (tgt := 241) d_Node_hear_169 (by decide) ?_
  have hF4 : ∀ e1, Fr M3 (mup M3 a e1) a 15 := fun e1 => Fr.mup Fr.rf (by omega) (by omega)
  exact rw_vret d_Node_hear_241 rfl ⟨rfl, rfl, hN3.flag (f := 3) (v := 1) (by omega) (by omega) rfl, hS3.node hN3 hpa (hF4 _), (Fr2.of0 hF3).trans (Fr2.of1 (hF4 _))⟩
set_option maxRecDepth 100000 in
/-- ENTRIES and WHOLE: the log is followed -/
theorem hear_follow {M : mm_M} {q k d b f : Nat} {w : Bool} {fr t e s en dn nu an : Int32} {cv : Value} (hN : NdP M ca cm g E pl p a n x) (hS : SyP G M ca cm g E pl p post) (hpa : p + 328 ≤ a) (hq1 : p ≤ q) (hq2 : q + 5 ≤ p + 328) (hk : k < 10) (hw : w = decide (k = 8)) (hf : 1 ≤ f) (hf2 : w = true → f = 2) (hm : M q = some (msO q (.ref (gad G k)) fr t e s en dn nu an cv)) (hO : CpP f M ca cm g (q + 1) d b) :
    RW l G Y_Node_hear (rm 5) (mm_Z G (rm 5) (NdQ G M sz ca cm g E pl p a n (pFollow w d b x) post)) 0 0 172 (hrL a q) [] M sz := by
  obtain ⟨h0, h1, h2, h3, h4⟩ := id hN
  obtain ⟨hP, hA, hpl, hlt, hN7, -, -, hg, -, -⟩ := id hS
  obtain ⟨hh, hc0⟩ := h1.2.obj
  have b1 := h4.2 1 (by omega)
  refine rw_aload_n d_Node_hear_172 rfl (by first | exact mm_ref_r _ | exact mm_ref_n | exact mm_ref_o _) ?_
  refine rw_dup d_Node_hear_173 rfl ?_
  refine rw_get d_Node_hear_174 fF_Node_76 h0 rfl ?_
  refine rw_aload_n d_Node_hear_177 rfl (by first | exact mm_ref_r _ | exact mm_ref_n | exact mm_ref_o _) ?_
  refine rw_get d_Node_hear_178 fF_Node_12 h0 rfl ?_
  refine rw_get d_Node_hear_181 fF_Node_146 h1.1 rfl ?_
  refine rw_aload_n d_Node_hear_184 rfl (by first | exact mm_ref_r _ | exact mm_ref_n | exact mm_ref_o _) ?_
  refine rw_get d_Node_hear_185 fF_Node_142 hm rfl ?_
  refine rw_aload_n d_Node_hear_188 rfl (by first | exact mm_ref_r _ | exact mm_ref_n | exact mm_ref_o _) ?_
  refine rw_get d_Node_hear_189 fF_Node_85 hm rfl ?_
  refine rw_kind (i := 8) (by decide) fS_Node_133 d_Node_hear_192 ?_
  have join : RW l G Y_Node_hear (rm 5) (mm_Z G (rm 5) (NdQ G M sz ca cm g E pl p a n (pFollow w d b x) post)) 0 0 203 (hrL a q) [.int (bI w), .ref (q + 1), .ref (a + 1 + 1), .int (nI (x 1)), .ref a] M sz := by
    refine rw_callV (kc := 0) (ks := 0) (rest := [.int (nI (x 1)), .ref a]) d_Node_hear_203 (c_follow (w := w) hA h1.2 hO hf hf2 (by omega) hg) mW_Copy_follow mL_Node_153 mI_Copy_follow mE_Copy_follow ⟨by decide, by decide⟩ hc0 rfl rfl rfl rfl (Nat.le_of_ble_eq_true rfl) (fun r M2 sz2 hq => ?_)
    obtain ⟨rfl, rfl, y1, y2⟩ := hq
    refine rw_stk (st' := [.int (bI (pFolC w (x 5) (x 6) d b)), .int (nI (x 1)), .ref a]) rfl ?_
    refine rw_ior d_Node_hear_206 ?_
    have e1v : pFollow w d b x 1 = if pFolC w (x 5) (x 6) d b then 1 else x 1 := rfl
    have eor : nI (x 1) ||| bI (pFolC w (x 5) (x 6) d b) = nI (pFollow w d b x 1) := by
      rw [e1v]
      rcases (show x 1 = 0 ∨ x 1 = 1 by omega) with z | z <;> cases pFolC w (x 5) (x 6) d b <;> rw [z] <;> rfl
    rw [eor]
    have hbz : pFollow w d b x 1 ≤ 1 := by
      rw [e1v]
      split
      · exact Nat.le_refl _
      · exact b1
    have hz01 : pFollow w d b x 1 = 0 ∨ pFollow w d b x 1 = 1 := by omega
    have hnb : narrow .boolean (.int (nI (pFollow w d b x 1))) = .int (nI (pFollow w d b x 1)) := by
      rcases hz01 with z | z <;> rw [z] <;> rfl
    have hfb : fits .boolean (.int (nI (pFollow w d b x 1))) = true := by
      rcases hz01 with z | z <;> rw [z] <;> rfl
    refine rw_put d_Node_hear_207 (fP_Node_76 _) ((y2 a (by omega)).trans h0) (Nat.le_of_ble_eq_true rfl) (by first | rfl | assumption | decide) (by first | rfl | assumption | decide) ?_
    refine rw_aload_n d_Node_hear_210 rfl (by first | exact mm_ref_r _ | exact mm_ref_n | exact mm_ref_o _) ?_
    refine rw_iconst (v := 1) d_Node_hear_211 (by decide) ?_
    refine rw_put d_Node_hear_212 (fP_Node_82 _) (mup_self _ _ _) (Nat.le_of_ble_eq_true rfl) (by first | rfl | assumption | decide) (by first | rfl | assumption | decide) ?_
    refine rw_goto (tgt := 241) d_Node_hear_215 (by decide) ?_
    have hF : ∀ e1 e2, Fr M (mup (mup M2 a e1) a e2) a 15 := fun e1 e2 => Fr.mup (Fr.mup (y2.wider (by omega) (by omega)) (by omega) (by omega)) (by omega) (by omega)
    have es : ∀ j, j ≠ 1 → j ≠ 3 → j ≠ 5 → j ≠ 6 → pFollow w d b x j = x j := fun j j1 j2 j3 j4 => by
      unfold pFollow
      rw [if_neg j3, if_neg j4, if_neg j1, if_neg j2]
    obtain ⟨-, -, -, -, -, z512, z512b, -⟩ := id y1
    refine rw_vret d_Node_hear_241 rfl ⟨rfl, rfl, ⟨?_, ⟨?_, ?_⟩, ?_, ?_, ?_⟩, hS.node hN hpa (hF _ _), Fr2.of1 (hF _ _)⟩
    · rw [mup_self]
      simp only [ndO]
      rw [es 0 (by omega) (by omega) (by omega) (by omega), es 2 (by omega) (by omega) (by omega) (by omega)]
      rfl
    · rw [mup_ne _ _ (by omega), mup_ne _ _ (by omega), y2 _ (by omega), es 4 (by omega) (by omega) (by omega) (by omega)]
      exact h1.1
    · exact y1.kept (fun y y1 y2 => by rw [mup_ne _ _ (by omega), mup_ne _ _ (by omega)])
    · rw [es 7 (by omega) (by omega) (by omega) (by omega), es 8 (by omega) (by omega) (by omega) (by omega), es 9 (by omega) (by omega) (by omega) (by omega)]
      exact h2.kept (fun y z1 z2 => by rw [mup_ne _ _ (by omega), mup_ne _ _ (by omega), y2 y (by omega)])
    · exact (h3.kept (fun y z1 z2 => by rw [mup_ne _ _ (by omega), mup_ne _ _ (by omega), y2 y (by omega)])).same (es 10 (by omega) (by omega) (by omega) (by omega)) (es 11 (by omega) (by omega) (by omega) (by omega)) (fun m hm => ⟨es _ (by omega) (by omega) (by omega) (by omega), es _ (by omega) (by omega) (by omega) (by omega), es _ (by omega) (by omega) (by omega) (by omega)⟩)
    · refine ⟨fun j => ?_, fun j hj => ?_⟩
      · unfold pFollow
        (repeat' split) <;> first | omega | exact h4.1 _
      · unfold pFollow
        (repeat' split) <;> first | omega | exact h4.2 j hj
  by_cases c : k = 8
  · subst c
    refine rw_acmp_ne_f (tgt := 202) d_Node_hear_195 (by decide) ?_
    refine rw_iconst (v := 1) d_Node_hear_198 (by decide) ?_
    refine rw_goto (tgt := 203) d_Node_hear_199 (by decide) ?_
    rw [decide_eq_true rfl] at hw
    subst hw
    exact join
  · refine rw_acmpK_t (tgt := 202) hk (by decide) c d_Node_hear_195 (by decide) ?_
    refine rw_iconst (v := 0) d_Node_hear_202 (by decide) ?_
    rw [decide_eq_false c] at hw
    subst hw
    exact join
set_option maxRecDepth 100000 in
/-- DROP: nothing is kept -/
theorem hear_drop {M : mm_M} {q : Nat} (hN : NdP M ca cm g E pl p a n x) (hS : SyP G M ca cm g E pl p post) (hpa : p + 328 ≤ a) :
    RW l G Y_Node_hear (rm 5) (mm_Z G (rm 5) (NdQ G M sz ca cm g E pl p a n (fun j => if j = 5 ∨ j = 6 then 0 else if j = 1 ∨ j = 3 then 1 else x j) post)) 0 0 218 (hrL a q) [] M sz := by
  obtain ⟨h0, h1, h2, h3, h4⟩ := id hN
  obtain ⟨hh, hc0⟩ := h1.2.obj
  refine rw_aload_n d_Node_hear_218 rfl (by first | exact mm_ref_r _ | exact mm_ref_n | exact mm_ref_o _) ?_
  refine rw_get d_Node_hear_219 fF_Node_12 h0 rfl ?_
  refine rw_get d_Node_hear_222 fF_Node_146 h1.1 rfl ?_
  refine rw_callV (kc := 0) (ks := 0) (rest := []) d_Node_hear_225 (c_empty (h1.2.le (by omega))) mW_Copy_empty mL_Node_157 mI_Copy_empty mE_Copy_empty ⟨by decide, by decide⟩ hc0 rfl rfl rfl rfl (Nat.le_of_ble_eq_true rfl) (fun r M2 sz2 hq => ?_)
  obtain ⟨rfl, rfl, y1, y2⟩ := hq
  refine rw_stk (st' := []) rfl ?_
  refine rw_aload_n d_Node_hear_228 rfl (by first | exact mm_ref_r _ | exact mm_ref_n | exact mm_ref_o _) ?_
  refine rw_iconst (v := 1) d_Node_hear_229 (by decide) ?_
  refine rw_put d_Node_hear_230 (fP_Node_76 _) ((y2 a (by omega)).trans h0) (Nat.le_of_ble_eq_true rfl) (by first | rfl | assumption | decide) (by first | rfl | assumption | decide) ?_
  refine rw_aload_n d_Node_hear_233 rfl (by first | exact mm_ref_r _ | exact mm_ref_n | exact mm_ref_o _) ?_
  refine rw_iconst (v := 1) d_Node_hear_234 (by decide) ?_
  refine rw_put d_Node_hear_235 (fP_Node_82 _) (mup_self _ _ _) (Nat.le_of_ble_eq_true rfl) (by first | rfl | assumption | decide) (by first | rfl | assumption | decide) ?_
  refine rw_goto (tgt := 241) d_Node_hear_238 (by decide) ?_
  have hF : ∀ e1 e2, Fr M (mup (mup M2 a e1) a e2) a 15 := fun e1 e2 => Fr.mup (Fr.mup (y2.wider (by omega) (by omega)) (by omega) (by omega)) (by omega) (by omega)
  have es : ∀ j, j ≠ 1 → j ≠ 3 → j ≠ 5 → j ≠ 6 → (fun j => if j = 5 ∨ j = 6 then 0 else if j = 1 ∨ j = 3 then 1 else x j) j = x j := fun j j1 j2 j3 j4 => by
    simp only
    rw [if_neg (by omega), if_neg (by omega)]
  refine rw_vret d_Node_hear_241 rfl ⟨rfl, rfl, ⟨?_, ⟨?_, ?_⟩, ?_, ?_, ?_⟩, hS.node hN hpa (hF _ _), Fr2.of1 (hF _ _)⟩
  · rw [mup_self]
    rfl
  · rw [mup_ne _ _ (by omega), mup_ne _ _ (by omega), y2 _ (by omega)]
    exact h1.1
  · exact y1.kept (fun y y1 y2 => by rw [mup_ne _ _ (by omega), mup_ne _ _ (by omega)])
  · exact h2.kept (fun y z1 z2 => by rw [mup_ne _ _ (by omega), mup_ne _ _ (by omega), y2 y (by omega)])
  · exact (h3.kept (fun y z1 z2 => by rw [mup_ne _ _ (by omega), mup_ne _ _ (by omega), y2 y (by omega)])).same rfl rfl (fun m hm => ⟨es _ (by omega) (by omega) (by omega) (by omega), es _ (by omega) (by omega) (by omega) (by omega), es _ (by omega) (by omega) (by omega) (by omega)⟩)
  · refine ⟨fun j => ?_, fun j hj => ?_⟩
    · simp only
      (repeat' split) <;> first | omega | exact h4.1 _
    · simp only
      (repeat' split) <;> first | omega | exact h4.2 j hj
end HEAR
