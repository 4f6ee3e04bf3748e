/-! The law's steps: the class and the reference side by side. -/
abbrev Y_Law (nm : String) : mm_Y := ("VersionGroupLaw", code, 4, ret, nm)
def lawZ (G : mm_G) : mm_Zt := fun below args s t => args = #[Value.ref (gb G)] → s.heap.size = gh G → lw_Z below args s t
/-- the class and the reference agree; k calls are done -/
def LI (G : mm_G) (E : pE) (v ep k : Nat) (M : mm_M) (sz : Nat) : Prop := ∃ (ca : Nat → Nat) (cm : Nat → pCm) (g : Nat) (nd : Nat → pN) (post : List pMsg) (y : pN) (aa Lg up : Nat), VgP G M ca cm g E v nd post y ∧ MoP M (v + vgN E) aa Lg E cm (y 2) g up ep (y 3) ∧ JS E (nd, post, y) ∧ y 0 = ep ∧ g ≤ k ∧ (∀ n, n < eN E → nd n 0 = (if up.testBit n then 1 else 0)) ∧ (y 3 = 1 → ∀ n, n < eN E → nd n 5 = pKd E (y 2) n) ∧ (v + vgN E + 7 ≤ sz ∧ aa < sz ∧ ∀ i, i < g → ca i < sz ∧ v + vgN E + 7 ≤ ca i ∧ ca i ≠ aa)
abbrev llv (G : mm_G) (E : pE) (v k : Nat) : List (Nat × Value) := [(0, .ref (gb G)), (1, .ref v), (2, .ref (v + vgN E)), (3, .int (nI (2 + 4 * k)))]
section LAWSTEP
variable {l : Launch} {G : mm_G} {E : pE} {v ep k m : Nat} {nm : String} {M : mm_M} {sz : Nat}
theorem rw_lawret {pc kc ks : Nat} {lv : List (Nat × Value)} (hd : decode code pc = .ok (.ireturn, 1)) : RW l G (Y_Law nm) room_1 (lawZ G) kc ks pc lv [.int 1] M sz := by
  intro p e s m args below meth c C H locs ls cells slots hR hL hl h1 h2
  by_cases q : args = #[Value.ref (gb G)] ∧ s.heap.size = gh G
  · obtain ⟨rfl, hz⟩ := q
    have w0 : W p l e room_1 s m #[Value.ref (gb G)] below meth c H [] 600000 7302250 (lw_Z below #[Value.ref (gb G)] s) (F0 m pc ls [.int 1]) := lw_ret C.1 C.2.1 C.2.2.1 C.2.2.2.2.1 hd
    have hc : cells + kc ≤ 600000 := h1
    have hs : slots + ks ≤ 7302250 := h2
    have w1 := va_forget (locs := locs) (fun q hq => by rw [hz]; exact hL q hq) (W.widen (cells := cells) (slots := slots) (k := 600000) (n := 7302250) (by omega) (by omega) w0)
    intro T hT X
    obtain ⟨t, a1, a2⟩ := w1 T hT X
    exact ⟨t, a1, fun _ _ => a2⟩
  · intro T hT X
    exact ⟨_, Steps.refl _, fun a b => absurd ⟨a, b⟩ q⟩
/-- a number of the script -/
theorem rw_scr {Y : mm_Y} {R : Room} {Z : mm_Zt} {kc ks pc i j : Nat} {jn : Int} {lv : List (Nat × Value)} {st : List Value} (d0 : decode Y.2.1 pc = .ok (.aload_n 0, 1)) (d1 : decode Y.2.1 (pc + 1) = .ok (.iload_n 3, 1)) (d2 : decode Y.2.1 (pc + 2) = .ok (.iconst jn, 1)) (d3 : decode Y.2.1 (pc + 3) = .ok (.iadd, 1)) (d4 : decode Y.2.1 (pc + 4) = .ok (.iaload, 1)) (hj : Int32.ofInt jn = nI j) (h0 : lv.lookup 0 = some (.ref (gb G))) (h3 : lv.lookup 3 = some (.int (nI i))) (hi : i + j < gL G) (hL : gL G < 10000)
    (kk : RW l G Y R Z kc ks (pc + 5) lv (.int (gx G (i + j)) :: st) M sz) : RW l G Y R Z kc ks pc lv st M sz := by
  refine rw_aload_n d0 h0 (mm_ref_r _) ?_
  refine rw_iload_n d1 h3 ?_
  refine rw_iconst d2 hj ?_
  refine rw_iadd d3 ?_
  rw [nI_add]
  refine rw_sld d4 (vp_in_nI hi (by omega)) ?_
  rw [nI_c (by omega)]
  exact kk
/-- behind a call that stirs -/
theorem LI.of {M1 M2 : mm_M} {ca : Nat → Nat} {cm : Nat → pCm} {g td aa Lg up : Nat} {U : Nat → Nat} {s : pSt} (hv : VgP G M1 ca cm g E v s.1 s.2.1 s.2.2) (hj : JX E ep g td U s) (hm : MoP M2 (v + vgN E) aa Lg E cm td g up ep 0) (hq : ∀ q, (q < v + vgN E ∨ v + vgN E + 6 ≤ q) → q ≠ aa → M2 q = M1 q) (hU : ∀ n, n < eN E → U n = (if up.testBit n then 1 else 0)) (hk : g ≤ k) (ha : v + vgN E + 7 ≤ sz ∧ aa < sz ∧ ∀ i, i < g → ca i < sz ∧ v + vgN E + 7 ≤ ca i ∧ ca i ≠ aa) : LI G E v ep k M2 sz := by
  obtain ⟨j1, j2, j3, j4, j5, j6⟩ := hj
  have haa : v + vgN E + 6 ≤ aa := by
    obtain ⟨_, _, _, _, _, _, _, _, _, _, _, _, _, ⟨_, _, _, _, h, _⟩, _⟩ := hm
    exact h
  refine ⟨ca, cm, g, s.1, s.2.1, s.2.2, aa, Lg, up, hv.keep2 (fun q q1 q2 => hq q (Or.inl q2) (by omega)) (fun i hi => hq _ (by have := (ha.2.2 i hi).2.1; omega) (ha.2.2 i hi).2.2), ?_, j1, j2, hk, fun n hn => by rw [j6 n hn]; exact hU n hn, fun z => ?_, ha⟩
  · rw [j4, j5]
    exact hm
  · rw [j5] at z
    cases z
theorem MoP.fr {M1 : mm_M} {aa Lg td gv up cl : Nat} {cm : Nat → pCm} (h : MoP M (v + vgN E) aa Lg E cm td gv up ep cl) (hF : Fr M M1 v (vgN E)) : MoP M1 (v + vgN E) aa Lg E cm td gv up ep cl := by
  have haa : v + vgN E + 6 ≤ aa := by
    obtain ⟨_, _, _, _, _, _, _, _, _, _, _, _, _, ⟨_, _, _, _, h, _⟩, _⟩ := h
    exact h
  exact h.kept (fun q q1 q2 => hF q (Or.inr q1)) (hF _ (Or.inr (by omega)))
theorem JX.mk {nd : Nat → pN} {post : List pMsg} {y : pN} {g up : Nat} (h : JS E (nd, post, y)) (h0 : y 0 = ep) (h1 : y 1 = g) (hu : ∀ n, n < eN E → nd n 0 = (if up.testBit n then 1 else 0)) : JX E ep g (y 2) (fun n => if up.testBit n then 1 else 0) (nd, post, pu y 3 0) :=
  ⟨h.calm, by show pu y 3 0 0 = ep; rw [pu_ne _ _ (by omega)]; exact h0, by show pu y 3 0 1 = g; rw [pu_ne _ _ (by omega)]; exact h1, by show pu y 3 0 2 = y 2; exact pu_ne _ _ (by omega), by show pu y 3 0 3 = 0; exact pu_self _ _ _, hu⟩
set_option maxRecDepth 100000 in
theorem ls_deliver (hE : eOk E) (hL : 6 + 4 * k ≤ gL G) (hL2 : gL G < 10000) (hI : LI G E v ep k M sz) (K : ∀ M' sz', LI G E v ep (k + 1) M' sz' → RW l G (Y_Law nm) room_1 (lawZ G) m (1024 * m) 481 (llv G E v k) [] M' sz') : RW l G (Y_Law nm) room_1 (lawZ G) m (1024 * m) 163 (llv G E v k) [] M sz := by
  obtain ⟨ca, cm, g, nd, post, y, aa, Lg, up, hv, hm, hj, h0, hg, hu, ht, ha⟩ := hI
  refine rw_aload_n d_Law_law_163 rfl (by first | exact mm_ref_r _ | exact mm_ref_n | exact mm_ref_o _) ?_
  refine rw_scr (i := 2 + 4 * k) (j := 1) d_Law_law_164 d_Law_law_165 d_Law_law_166 d_Law_law_167 d_Law_law_168 (by decide) rfl rfl (by omega) hL2 ?_
  refine rw_callV (kc := m) (ks := 1024 * m) (rest := []) d_Law_law_169 (c_deliver (s := (nd, post, y)) (JX.jc (ep := ep) (g := g) (td := y 2) (U := fun n => if up.testBit n then 1 else 0) hE) (JX.mk hj h0 hv.2.2.2.2.2.1 hu) hv) mW_VG_deliver mL_Law_26 mI_VG_deliver mE_VG_deliver ⟨by decide, by decide⟩ hv.1 rfl rfl rfl rfl (Nat.le_of_ble_eq_true rfl) (fun r M1 sz1 hq => ?_)
  obtain ⟨rfl, rfl, ⟨s, q1, q2⟩, q3⟩ := hq
  refine rw_stk (st' := []) rfl ?_
  have hm1 := hm.fr q3
  obtain ⟨_, _, _, _, _, _, k0, _⟩ := id hm1
  refine rw_aload_n d_Law_law_172 rfl (by first | exact mm_ref_r _ | exact mm_ref_n | exact mm_ref_o _) ?_
  refine rw_scr (i := 2 + 4 * k) (j := 1) d_Law_law_173 d_Law_law_174 d_Law_law_175 d_Law_law_176 d_Law_law_177 (by decide) rfl rfl (by omega) hL2 ?_
  refine rw_callV (kc := m) (ks := 1024 * m) (rest := []) d_Law_law_178 (c_mDeliver hm1) mW_Mod_deliver mL_Law_30 mI_Mod_deliver mE_Mod_deliver ⟨by decide, by decide⟩ k0 rfl rfl rfl rfl (Nat.le_of_ble_eq_true rfl) (fun r M2 sz2 hq => ?_)
  obtain ⟨rfl, rfl, w1, w2⟩ := hq
  refine rw_stk (st' := []) rfl ?_
  refine rw_goto (tgt := 481) d_Law_law_181 (by decide) ?_
  exact K _ _ (LI.of q2 q1 w1 (fun q z1 z2 => w2 q (by omega)) (fun _ _ => rfl) (by omega) ha)
set_option maxRecDepth 100000 in
theorem ls_lose (hE : eOk E) (hL : 6 + 4 * k ≤ gL G) (hL2 : gL G < 10000) (hI : LI G E v ep k M sz) (K : ∀ M' sz', LI G E v ep (k + 1) M' sz' → RW l G (Y_Law nm) room_1 (lawZ G) m (1024 * m) 481 (llv G E v k) [] M' sz') : RW l G (Y_Law nm) room_1 (lawZ G) m (1024 * m) 184 (llv G E v k) [] M sz := by
  obtain ⟨ca, cm, g, nd, post, y, aa, Lg, up, hv, hm, hj, h0, hg, hu, ht, ha⟩ := hI
  refine rw_aload_n d_Law_law_184 rfl (by first | exact mm_ref_r _ | exact mm_ref_n | exact mm_ref_o _) ?_
  refine rw_scr (i := 2 + 4 * k) (j := 1) d_Law_law_185 d_Law_law_186 d_Law_law_187 d_Law_law_188 d_Law_law_189 (by decide) rfl rfl (by omega) hL2 ?_
  refine rw_callV (kc := m) (ks := 1024 * m) (rest := []) d_Law_law_190 (c_lose (s := (nd, post, y)) (JX.jc (ep := ep) (g := g) (td := y 2) (U := fun n => if up.testBit n then 1 else 0) hE) (JX.mk hj h0 hv.2.2.2.2.2.1 hu) hv) mW_VG_lose mL_Law_31 mI_VG_lose mE_VG_lose ⟨by decide, by decide⟩ hv.1 rfl rfl rfl rfl (Nat.le_of_ble_eq_true rfl) (fun r M1 sz1 hq => ?_)
  obtain ⟨rfl, rfl, ⟨s, q1, q2⟩, q3⟩ := hq
  refine rw_stk (st' := []) rfl ?_
  have hm1 := hm.fr q3
  obtain ⟨_, _, _, _, _, _, k0, _⟩ := id hm1
  refine rw_aload_n d_Law_law_193 rfl (by first | exact mm_ref_r _ | exact mm_ref_n | exact mm_ref_o _) ?_
  refine rw_scr (i := 2 + 4 * k) (j := 1) d_Law_law_194 d_Law_law_195 d_Law_law_196 d_Law_law_197 d_Law_law_198 (by decide) rfl rfl (by omega) hL2 ?_
  refine rw_callV (kc := m) (ks := 1024 * m) (rest := []) d_Law_law_199 (c_mLose hm1) mW_Mod_lose mL_Law_34 mI_Mod_lose mE_Mod_lose ⟨by decide, by decide⟩ k0 rfl rfl rfl rfl (Nat.le_of_ble_eq_true rfl) (fun r M2 sz2 hq => ?_)
  obtain ⟨rfl, rfl, w1, w2⟩ := hq
  refine rw_stk (st' := []) rfl ?_
  refine rw_goto (tgt := 481) d_Law_law_202 (by decide) ?_
  exact K _ _ (LI.of q2 q1 w1 (fun q z1 z2 => w2 q (by omega)) (fun _ _ => rfl) (by omega) ha)
set_option maxRecDepth 100000 in
theorem ls_twice (hE : eOk E) (hL : 6 + 4 * k ≤ gL G) (hL2 : gL G < 10000) (hI : LI G E v ep k M sz) (K : ∀ M' sz', LI G E v ep (k + 1) M' sz' → RW l G (Y_Law nm) room_1 (lawZ G) m (1024 * m) 481 (llv G E v k) [] M' sz') : RW l G (Y_Law nm) room_1 (lawZ G) m (1024 * m) 205 (llv G E v k) [] M sz := by
  obtain ⟨ca, cm, g, nd, post, y, aa, Lg, up, hv, hm, hj, h0, hg, hu, ht, ha⟩ := hI
  refine rw_aload_n d_Law_law_205 rfl (by first | exact mm_ref_r _ | exact mm_ref_n | exact mm_ref_o _) ?_
  refine rw_scr (i := 2 + 4 * k) (j := 1) d_Law_law_206 d_Law_law_207 d_Law_law_208 d_Law_law_209 d_Law_law_210 (by decide) rfl rfl (by omega) hL2 ?_
  refine rw_callV (kc := m) (ks := 1024 * m) (rest := []) d_Law_law_211 (c_twice (s := (nd, post, y)) (JX.jc (ep := ep) (g := g) (td := y 2) (U := fun n => if up.testBit n then 1 else 0) hE) (JX.mk hj h0 hv.2.2.2.2.2.1 hu) hv) mW_VG_twice mL_Law_35 mI_VG_twice mE_VG_twice ⟨by decide, by decide⟩ hv.1 rfl rfl rfl rfl (Nat.le_of_ble_eq_true rfl) (fun r M1 sz1 hq => ?_)
  obtain ⟨rfl, rfl, ⟨s, q1, q2⟩, q3⟩ := hq
  refine rw_stk (st' := []) rfl ?_
  have hm1 := hm.fr q3
  obtain ⟨_, _, _, _, _, _, k0, _⟩ := id hm1
  refine rw_aload_n d_Law_law_214 rfl (by first | exact mm_ref_r _ | exact mm_ref_n | exact mm_ref_o _) ?_
  refine rw_scr (i := 2 + 4 * k) (j := 1) d_Law_law_215 d_Law_law_216 d_Law_law_217 d_Law_law_218 d_Law_law_219 (by decide) rfl rfl (by omega) hL2 ?_
  refine rw_callV (kc := m) (ks := 1024 * m) (rest := []) d_Law_law_220 (c_mTwice hm1) mW_Mod_twice mL_Law_38 mI_Mod_twice mE_Mod_twice ⟨by decide, by decide⟩ k0 rfl rfl rfl rfl (Nat.le_of_ble_eq_true rfl) (fun r M2 sz2 hq => ?_)
  obtain ⟨rfl, rfl, w1, w2⟩ := hq
  refine rw_stk (st' := []) rfl ?_
  refine rw_goto (tgt := 481) d_Law_law_223 (by decide) ?_
  exact K _ _ (LI.of q2 q1 w1 (fun q z1 z2 => w2 q (by omega)) (fun _ _ => rfl) (by omega) ha)
set_option maxRecDepth 100000 in
theorem ls_stir (hE : eOk E) (hL : 6 + 4 * k ≤ gL G) (hL2 : gL G < 10000) (hI : LI G E v ep k M sz) (K : ∀ M' sz', LI G E v ep (k + 1) M' sz' → RW l G (Y_Law nm) room_1 (lawZ G) m (1024 * m) 481 (llv G E v k) [] M' sz') : RW l G (Y_Law nm) room_1 (lawZ G) m (1024 * m) 226 (llv G E v k) [] M sz := by
  have hI0 := hI
  obtain ⟨ca, cm, g, nd, post, y, aa, Lg, up, hv, hm, hj, h0, hg, hu, ht, ha⟩ := hI
  refine rw_aload_n d_Law_law_226 rfl (by first | exact mm_ref_r _ | exact mm_ref_n | exact mm_ref_o _) ?_
  refine rw_scr (i := 2 + 4 * k) (j := 1) d_Law_law_227 d_Law_law_228 d_Law_law_229 d_Law_law_230 d_Law_law_231 (by decide) rfl rfl (by omega) hL2 ?_
  refine rw_scr (i := 2 + 4 * k) (j := 2) d_Law_law_232 d_Law_law_233 d_Law_law_234 d_Law_law_235 d_Law_law_236 (by decide) rfl rfl (by omega) hL2 ?_
  refine rw_callV (kc := m) (ks := 1024 * m) (rest := []) d_Law_law_237 (c_stir (s := (nd, post, y)) (JX.jc (ep := ep) (g := g) (td := y 2) (U := fun n => if up.testBit n then 1 else 0) hE) (JX.mk hj h0 hv.2.2.2.2.2.1 hu) hv) mW_VG_stir mL_Law_39 mI_VG_stir mE_VG_stir ⟨by decide, by decide⟩ hv.1 rfl rfl rfl rfl (Nat.le_of_ble_eq_true rfl) (fun r M1 sz1 hq => ?_)
  obtain ⟨rfl, ⟨c, rfl, rfl⟩ | ⟨c, rfl, ⟨s, q1, q2⟩, q3⟩⟩ := hq
  · refine rw_stk (st' := [.int (-1)]) rfl ?_
    obtain ⟨_, _, _, _, _, _, k0, _⟩ := id hm
    refine rw_aload_n d_Law_law_240 rfl (by first | exact mm_ref_r _ | exact mm_ref_n | exact mm_ref_o _) ?_
    refine rw_scr (i := 2 + 4 * k) (j := 1) d_Law_law_241 d_Law_law_242 d_Law_law_243 d_Law_law_244 d_Law_law_245 (by decide) rfl rfl (by omega) hL2 ?_
    refine rw_scr (i := 2 + 4 * k) (j := 2) d_Law_law_246 d_Law_law_247 d_Law_law_248 d_Law_law_249 d_Law_law_250 (by decide) rfl rfl (by omega) hL2 ?_
    refine rw_callV (kc := m) (ks := 1024 * m) (rest := [.int (-1)]) d_Law_law_251 (c_mStir hm) mW_Mod_stir mL_Law_43 mI_Mod_stir mE_Mod_stir ⟨by decide, by decide⟩ k0 rfl rfl rfl rfl (Nat.le_of_ble_eq_true rfl) (fun r M2 sz2 hq => ?_)
    rcases hq with ⟨-, rfl, rfl, rfl⟩ | ⟨n1, n2, -⟩
    · refine rw_stk (st' := [.int (-1), .int (-1)]) rfl ?_
      refine rw_icmp_eq_t (tgt := 481) d_Law_law_254 (by decide) (rfl) ?_
      exact K _ _ ⟨ca, cm, g, nd, post, y, aa, Lg, up, hv, hm, hj, h0, by omega, hu, ht, ha⟩
    · rcases c with c | c
      · exact absurd c n1
      · exact absurd c n2
  · refine rw_stk (st' := [.int (gx G (2 + 4 * k + 1))]) rfl ?_
    have hm1 := hm.fr q3
    obtain ⟨_, _, _, _, _, _, k0, _⟩ := id hm1
    refine rw_aload_n d_Law_law_240 rfl (by first | exact mm_ref_r _ | exact mm_ref_n | exact mm_ref_o _) ?_
    refine rw_scr (i := 2 + 4 * k) (j := 1) d_Law_law_241 d_Law_law_242 d_Law_law_243 d_Law_law_244 d_Law_law_245 (by decide) rfl rfl (by omega) hL2 ?_
    refine rw_scr (i := 2 + 4 * k) (j := 2) d_Law_law_246 d_Law_law_247 d_Law_law_248 d_Law_law_249 d_Law_law_250 (by decide) rfl rfl (by omega) hL2 ?_
    refine rw_callV (kc := m) (ks := 1024 * m) (rest := [.int (gx G (2 + 4 * k + 1))]) d_Law_law_251 (c_mStir hm1) mW_Mod_stir mL_Law_43 mI_Mod_stir mE_Mod_stir ⟨by decide, by decide⟩ k0 rfl rfl rfl rfl (Nat.le_of_ble_eq_true rfl) (fun r M2 sz2 hq => ?_)
    rcases hq with ⟨n1, -⟩ | ⟨-, -, rfl, rfl, w1, w2⟩
    · exact absurd n1 c
    · refine rw_stk (st' := [.int (gx G (2 + 4 * k + 1)), .int (gx G (2 + 4 * k + 1))]) rfl ?_
      refine rw_icmp_eq_t (tgt := 481) d_Law_law_254 (by decide) (rfl) ?_
      exact K _ _ (LI.of q2 q1 w1 (fun q z1 z2 => w2 q (by omega)) (fun _ _ => rfl) (by omega) ha)
set_option maxRecDepth 100000 in
theorem ls_tick (hE : eOk E) (hL : 6 + 4 * k ≤ gL G) (hL2 : gL G < 10000) (hI : LI G E v ep k M sz) (K : ∀ M' sz', LI G E v ep (k + 1) M' sz' → RW l G (Y_Law nm) room_1 (lawZ G) m (1024 * m) 481 (llv G E v k) [] M' sz') : RW l G (Y_Law nm) room_1 (lawZ G) m (1024 * m) 259 (llv G E v k) [] M sz := by
  obtain ⟨ca, cm, g, nd, post, y, aa, Lg, up, hv, hm, hj, h0, hg, hu, ht, ha⟩ := hI
  refine rw_aload_n d_Law_law_259 rfl (by first | exact mm_ref_r _ | exact mm_ref_n | exact mm_ref_o _) ?_
  refine rw_scr (i := 2 + 4 * k) (j := 1) d_Law_law_260 d_Law_law_261 d_Law_law_262 d_Law_law_263 d_Law_law_264 (by decide) rfl rfl (by omega) hL2 ?_
  refine rw_callV (kc := m) (ks := 1024 * m) (rest := []) d_Law_law_265 (c_tick (s := (nd, post, y)) (JX.jc (ep := ep) (g := g) (td := y 2) (U := fun n => if up.testBit n then 1 else 0) hE) (JX.mk hj h0 hv.2.2.2.2.2.1 hu) hv) mW_VG_tick mL_Law_44 mI_VG_tick mE_VG_tick ⟨by decide, by decide⟩ hv.1 rfl rfl rfl rfl (Nat.le_of_ble_eq_true rfl) (fun r M1 sz1 hq => ?_)
  obtain ⟨rfl, ⟨c, rfl, rfl⟩ | ⟨c, rfl, ⟨s, q1, q2⟩, q3⟩⟩ := hq
  · refine rw_stk (st' := [.int (-1)]) rfl ?_
    obtain ⟨_, _, _, _, _, _, k0, _⟩ := id hm
    refine rw_aload_n d_Law_law_268 rfl (by first | exact mm_ref_r _ | exact mm_ref_n | exact mm_ref_o _) ?_
    refine rw_scr (i := 2 + 4 * k) (j := 1) d_Law_law_269 d_Law_law_270 d_Law_law_271 d_Law_law_272 d_Law_law_273 (by decide) rfl rfl (by omega) hL2 ?_
    refine rw_callV (kc := m) (ks := 1024 * m) (rest := [.int (-1)]) d_Law_law_274 (c_mTick hm) mW_Mod_tick mL_Law_48 mI_Mod_tick mE_Mod_tick ⟨by decide, by decide⟩ k0 rfl rfl rfl rfl (Nat.le_of_ble_eq_true rfl) (fun r M2 sz2 hq => ?_)
    rcases hq with ⟨-, rfl, rfl, rfl⟩ | ⟨n1, n2, -⟩
    · refine rw_stk (st' := [.int (-1), .int (-1)]) rfl ?_
      refine rw_icmp_eq_t (tgt := 481) d_Law_law_277 (by decide) (rfl) ?_
      exact K _ _ ⟨ca, cm, g, nd, post, y, aa, Lg, up, hv, hm, hj, h0, by omega, hu, ht, ha⟩
    · rcases c with c | c
      · exact absurd c n1
      · exact absurd c n2
  · refine rw_stk (st' := [.int (gx G (2 + 4 * k + 1))]) rfl ?_
    have hm1 := hm.fr q3
    obtain ⟨_, _, _, _, _, _, k0, _⟩ := id hm1
    refine rw_aload_n d_Law_law_268 rfl (by first | exact mm_ref_r _ | exact mm_ref_n | exact mm_ref_o _) ?_
    refine rw_scr (i := 2 + 4 * k) (j := 1) d_Law_law_269 d_Law_law_270 d_Law_law_271 d_Law_law_272 d_Law_law_273 (by decide) rfl rfl (by omega) hL2 ?_
    refine rw_callV (kc := m) (ks := 1024 * m) (rest := [.int (gx G (2 + 4 * k + 1))]) d_Law_law_274 (c_mTick hm1) mW_Mod_tick mL_Law_48 mI_Mod_tick mE_Mod_tick ⟨by decide, by decide⟩ k0 rfl rfl rfl rfl (Nat.le_of_ble_eq_true rfl) (fun r M2 sz2 hq => ?_)
    rcases hq with ⟨n1, -⟩ | ⟨-, -, rfl, rfl, w1, w2⟩
    · exact absurd n1 c
    · refine rw_stk (st' := [.int (gx G (2 + 4 * k + 1)), .int (gx G (2 + 4 * k + 1))]) rfl ?_
      refine rw_icmp_eq_t (tgt := 481) d_Law_law_277 (by decide) (rfl) ?_
      exact K _ _ (LI.of q2 q1 w1 (fun q z1 z2 => w2 q (by omega)) (fun _ _ => rfl) (by omega) ha)
end LAWSTEP
