/-! The law's steps: crash, restart, answer, at, count. -/
section LAWSTEPB
variable {l : Launch} {G : mm_G} {E : pE} {v ep k m : Nat} {nm : String} {M : mm_M} {sz : Nat}
/-- a node turned -/
theorem LI.turned {M1 M2 : mm_M} {ca : Nat → Nat} {cm : Nat → pCm} {g aa Lg up j : Nat} {nd : Nat → pN} {x' : pN} {post : List pMsg} {y : pN} (hE : eOk E) (hv : VgP G M1 ca cm g E v (va_up nd j x') post (pu y 3 0)) (hj : JS E (va_up nd j x', post, pu y 3 0)) (h0 : y 0 = ep) (hm : MoP M2 (v + vgN E) aa Lg E cm (y 2) g (up ^^^ 2 ^ j) ep 0) (hq : Fr1 M1 M2 (v + vgN E)) (hu : ∀ n, n < eN E → nd n 0 = (if up.testBit n then 1 else 0)) (hx : x' 0 = (if up.testBit j then 0 else 1)) (hk : g ≤ k) (ha : v + vgN E + 7 ≤ sz ∧ aa < sz ∧ ∀ i, i < g → ca i < sz ∧ v + vgN E + 7 ≤ ca i ∧ ca i ≠ aa) : LI G E v ep k M2 sz := by
  refine ⟨ca, cm, g, va_up nd j x', post, pu y 3 0, aa, Lg, up ^^^ 2 ^ j, hv.keep2 (fun q q1 q2 => hq q (by omega)) (fun i hi => hq _ (by have := (ha.2.2 i hi).2.1; omega)), ?_, hj, by rw [pu_ne _ _ (by omega)]; exact h0, hk, fun n hn => ?_, fun z => ?_, ha⟩
  · rw [pu_ne _ _ (by omega), pu_self]
    exact hm
  · rw [Nat.testBit_xor, Nat.testBit_two_pow]
    by_cases z : n = j
    · subst z
      rw [va_up_self, hx]
      cases up.testBit n <;> simp
    · rw [va_up_ne _ _ z, hu n hn]
      have : decide (j = n) = false := decide_eq_false (fun w => z w.symm)
      rw [this]
      cases up.testBit n <;> simp
  · rw [pu_self] at z
    cases z
theorem fail_0 {b : Bool} {x : pN} : pFail b x 0 = 0 := by
  unfold pFail
  cases b with
  | true =>
    rw [if_pos rfl, pFlush_hi _ (by omega), pu_self]
  | false =>
    rw [if_neg (by decide)]
    rfl
set_option maxRecDepth 100000 in
theorem ls_crash (hE : eOk E) (hL : 6 + 4 * k ≤ gL G) (hL2 : gL G < 10000) (hI : LI G E v ep k M sz) (K : ∀ M' sz', LI G E v ep (k + 1) M' sz' → RW l G (Y_Law nm) room_1 (lawZ G) m (1024 * m) 481 (llv G E v k) [] M' sz') : RW l G (Y_Law nm) room_1 (lawZ G) m (1024 * m) 282 (llv G E v k) [] M sz := by
  obtain ⟨ca, cm, g, nd, post, y, aa, Lg, up, hv, hm, hj, h0, hg, hu, ht, ha⟩ := hI
  have hN7 := hE.2.1
  refine rw_aload_n d_Law_law_282 rfl (by first | exact mm_ref_r _ | exact mm_ref_n | exact mm_ref_o _) ?_
  refine rw_scr (i := 2 + 4 * k) (j := 1) d_Law_law_283 d_Law_law_284 d_Law_law_285 d_Law_law_286 d_Law_law_287 (by decide) rfl rfl (by omega) hL2 ?_
  refine rw_scr (i := 2 + 4 * k) (j := 2) d_Law_law_288 d_Law_law_289 d_Law_law_290 d_Law_law_291 d_Law_law_292 (by decide) rfl rfl (by omega) hL2 ?_
  have rest : ∀ b : Bool, (b = true ↔ ¬ gx G (2 + 4 * k + 2) = 0) → RW l G (Y_Law nm) room_1 (lawZ G) m (1024 * m) 301 (llv G E v k) [.int (bI b), .int (gx G (2 + 4 * k + 1)), .ref v] M sz := fun b hb => by
    refine rw_callV (kc := m) (ks := 1024 * m) (rest := []) d_Law_law_301 (c_crash (kept := b) hv) mW_VG_crash mL_Law_49 mI_VG_crash mE_VG_crash ⟨by decide, by decide⟩ hv.1 rfl rfl rfl rfl (Nat.le_of_ble_eq_true rfl) (fun r M1 sz1 hq => ?_)
    have tail : ∀ (r1 : Int32) (M1 : mm_M), (∀ z : Int32, RW l G (Y_Law nm) room_1 (lawZ G) m (1024 * m) 323 (llv G E v k) [.int z, .int (gx G (2 + 4 * k + 1)), .ref (v + vgN E), .int r1] M1 sz) → RW l G (Y_Law nm) room_1 (lawZ G) m (1024 * m) 304 (llv G E v k) [.int r1] M1 sz := fun r1 M1 hz => by
      refine rw_aload_n d_Law_law_304 rfl (by first | exact mm_ref_r _ | exact mm_ref_n | exact mm_ref_o _) ?_
      refine rw_scr (i := 2 + 4 * k) (j := 1) d_Law_law_305 d_Law_law_306 d_Law_law_307 d_Law_law_308 d_Law_law_309 (by decide) rfl rfl (by omega) hL2 ?_
      refine rw_scr (i := 2 + 4 * k) (j := 2) d_Law_law_310 d_Law_law_311 d_Law_law_312 d_Law_law_313 d_Law_law_314 (by decide) rfl rfl (by omega) hL2 ?_
      refine rw_if_eq (tgt := 322) d_Law_law_315 (by decide) (fun q => ?_) (fun q => ?_)
      · refine rw_iconst (v := 0) d_Law_law_322 (by decide) ?_
        exact hz 0
      · refine rw_iconst (v := 1) d_Law_law_318 (by decide) ?_
        refine rw_goto (tgt := 323) d_Law_law_319 (by decide) ?_
        exact hz 1
    obtain ⟨rfl, ⟨j, hjn, e1, e2, rfl, q1, q2⟩ | ⟨e1, rfl, rfl⟩⟩ := hq
    · refine rw_stk (st' := [.int 1]) rfl ?_
      have hm1 := hm.fr q2
      obtain ⟨_, _, _, _, _, _, k0, _⟩ := id hm1
      refine tail 1 M1 (fun z => ?_)
      refine rw_callV (kc := m) (ks := 1024 * m) (rest := [.int 1]) d_Law_law_323 (c_mCrash (z := z) hN7 hm1) mW_Mod_crash mL_Law_53 mI_Mod_crash mE_Mod_crash ⟨by decide, by decide⟩ k0 rfl rfl rfl rfl (Nat.le_of_ble_eq_true rfl) (fun r M2 sz2 hq => ?_)
      have hb1 : up.testBit j = true := by
        have := hu j hjn
        rw [e2] at this
        cases hh : up.testBit j
        · rw [hh] at this; cases this
        · rfl
      obtain ⟨rfl, ⟨j2, hj2, f1, f2, rfl, w1, w2⟩ | ⟨f1, -, -⟩⟩ := hq
      · refine rw_stk (st' := [.int 1, .int 1]) rfl ?_
        refine rw_icmp_eq_t (tgt := 481) d_Law_law_326 (by decide) (rfl) ?_
        have : j2 = j := by
          rw [e1] at f1
          exact ((nI_eq (by omega) (by omega)).mp f1).symm
        subst this
        exact K _ _ (LI.turned hE q1 (JS.calm (hj.fail hE)) h0 w1 w2 hu (by show pFail b (nd j2) 0 = _; rw [fail_0, hb1]; rfl) (by omega) ha)
      · exact absurd hb1 (f1 j hjn e1)
    · refine rw_stk (st' := [.int 0]) rfl ?_
      obtain ⟨_, _, _, _, _, _, k0, _⟩ := id hm
      refine tail 0 M1 (fun z => ?_)
      refine rw_callV (kc := m) (ks := 1024 * m) (rest := [.int 0]) d_Law_law_323 (c_mCrash (z := z) hN7 hm) mW_Mod_crash mL_Law_53 mI_Mod_crash mE_Mod_crash ⟨by decide, by decide⟩ k0 rfl rfl rfl rfl (Nat.le_of_ble_eq_true rfl) (fun r M2 sz2 hq => ?_)
      obtain ⟨rfl, ⟨j2, hj2, f1, f2, rfl, w1, w2⟩ | ⟨f1, rfl, rfl⟩⟩ := hq
      · exact absurd (by rw [hu j2 hj2, f2]; rfl) (e1 j2 hj2 f1)
      · refine rw_stk (st' := [.int 0, .int 0]) rfl ?_
        refine rw_icmp_eq_t (tgt := 481) d_Law_law_326 (by decide) (rfl) ?_
        exact K _ _ ⟨ca, cm, g, nd, post, y, aa, Lg, up, hv, hm, hj, h0, by omega, hu, ht, ha⟩
  refine rw_if_eq (tgt := 300) d_Law_law_293 (by decide) (fun q => ?_) (fun q => ?_)
  · refine rw_iconst (v := 0) d_Law_law_300 (by decide) ?_
    exact rest false (by simp [q])
  · refine rw_iconst (v := 1) d_Law_law_296 (by decide) ?_
    refine rw_goto (tgt := 301) d_Law_law_297 (by decide) ?_
    exact rest true (by simp [q])
set_option maxRecDepth 100000 in
theorem ls_restart (hE : eOk E) (hL : 6 + 4 * k ≤ gL G) (hL2 : gL G < 10000) (hI : LI G E v ep k M sz) (K : ∀ M' sz', LI G E v ep (k + 1) M' sz' → RW l G (Y_Law nm) room_1 (lawZ G) m (1024 * m) 481 (llv G E v k) [] M' sz') : RW l G (Y_Law nm) room_1 (lawZ G) m (1024 * m) 331 (llv G E v k) [] M sz := by
  obtain ⟨ca, cm, g, nd, post, y, aa, Lg, up, hv, hm, hj, h0, hg, hu, ht, ha⟩ := hI
  have hN7 := hE.2.1
  refine rw_aload_n d_Law_law_331 rfl (by first | exact mm_ref_r _ | exact mm_ref_n | exact mm_ref_o _) ?_
  refine rw_scr (i := 2 + 4 * k) (j := 1) d_Law_law_332 d_Law_law_333 d_Law_law_334 d_Law_law_335 d_Law_law_336 (by decide) rfl rfl (by omega) hL2 ?_
  refine rw_callV (kc := m) (ks := 1024 * m) (rest := []) d_Law_law_337 (c_restart hv) mW_VG_restart mL_Law_54 mI_VG_restart mE_VG_restart ⟨by decide, by decide⟩ hv.1 rfl rfl rfl rfl (Nat.le_of_ble_eq_true rfl) (fun r M1 sz1 hq => ?_)
  obtain ⟨rfl, ⟨j, hjn, e1, e2, rfl, q1, q2⟩ | ⟨e1, rfl, rfl⟩⟩ := hq
  · refine rw_stk (st' := [.int 1]) rfl ?_
    have hm1 := hm.fr q2
    obtain ⟨_, _, _, _, _, _, k0, _⟩ := id hm1
    refine rw_aload_n d_Law_law_340 rfl (by first | exact mm_ref_r _ | exact mm_ref_n | exact mm_ref_o _) ?_
    refine rw_scr (i := 2 + 4 * k) (j := 1) d_Law_law_341 d_Law_law_342 d_Law_law_343 d_Law_law_344 d_Law_law_345 (by decide) rfl rfl (by omega) hL2 ?_
    refine rw_callV (kc := m) (ks := 1024 * m) (rest := [.int 1]) d_Law_law_346 (c_mRestart hN7 hm1) mW_Mod_restart mL_Law_58 mI_Mod_restart mE_Mod_restart ⟨by decide, by decide⟩ k0 rfl rfl rfl rfl (Nat.le_of_ble_eq_true rfl) (fun r M2 sz2 hq => ?_)
    have hb1 : up.testBit j = false := by
      have := hu j hjn
      rw [e2] at this
      cases hh : up.testBit j
      · rfl
      · rw [hh] at this; cases this
    obtain ⟨rfl, ⟨j2, hj2, f1, f2, rfl, w1, w2⟩ | ⟨f1, -, -⟩⟩ := hq
    · refine rw_stk (st' := [.int 1, .int 1]) rfl ?_
      refine rw_icmp_eq_t (tgt := 481) d_Law_law_349 (by decide) (rfl) ?_
      have : j2 = j := by
        rw [e1] at f1
        exact ((nI_eq (by omega) (by omega)).mp f1).symm
      subst this
      exact K _ _ (LI.turned hE q1 (JS.calm hj.up) h0 w1 w2 hu (by show pu (nd j2) 0 1 0 = _; rw [pu_self, hb1]; rfl) (by omega) ha)
    · exact absurd hb1 (f1 j hjn e1)
  · refine rw_stk (st' := [.int 0]) rfl ?_
    obtain ⟨_, _, _, _, _, _, k0, _⟩ := id hm
    refine rw_aload_n d_Law_law_340 rfl (by first | exact mm_ref_r _ | exact mm_ref_n | exact mm_ref_o _) ?_
    refine rw_scr (i := 2 + 4 * k) (j := 1) d_Law_law_341 d_Law_law_342 d_Law_law_343 d_Law_law_344 d_Law_law_345 (by decide) rfl rfl (by omega) hL2 ?_
    refine rw_callV (kc := m) (ks := 1024 * m) (rest := [.int 0]) d_Law_law_346 (c_mRestart hN7 hm) mW_Mod_restart mL_Law_58 mI_Mod_restart mE_Mod_restart ⟨by decide, by decide⟩ k0 rfl rfl rfl rfl (Nat.le_of_ble_eq_true rfl) (fun r M2 sz2 hq => ?_)
    obtain ⟨rfl, ⟨j2, hj2, f1, f2, rfl, w1, w2⟩ | ⟨f1, rfl, rfl⟩⟩ := hq
    · exact absurd (by rw [hu j2 hj2, f2]; rfl) (e1 j2 hj2 f1)
    · refine rw_stk (st' := [.int 0, .int 0]) rfl ?_
      refine rw_icmp_eq_t (tgt := 481) d_Law_law_349 (by decide) (rfl) ?_
      exact K _ _ ⟨ca, cm, g, nd, post, y, aa, Lg, up, hv, hm, hj, h0, by omega, hu, ht, ha⟩
theorem AnQ.same {cm : Nat → pCm} {g td : Nat} {w : Int32} {r1 r2 : Option Value} {M1 M2 : mm_M} {s1 s2 : Nat} (hg : g ≤ 512) (h1 : AnQ M sz cm g td w r1 M1 s1) (h2 : AnQ M sz cm g td w r2 M2 s2) : ∃ z : Int64, r1 = some (.long z) ∧ r2 = some (.long z) := by
  obtain ⟨-, -, h1⟩ := h1
  obtain ⟨-, -, h2⟩ := h2
  rcases h1 with ⟨a1, rfl⟩ | ⟨i, a1, a2, rfl⟩
  · rcases h2 with ⟨b1, rfl⟩ | ⟨j, b1, b2, rfl⟩
    · exact ⟨_, rfl, rfl⟩
    · exact absurd ⟨j, b1, b2⟩ a1
  · rcases h2 with ⟨b1, rfl⟩ | ⟨j, b1, b2, rfl⟩
    · exact absurd ⟨i, a1, a2⟩ b1
    · rw [a2] at b2
      have : i = j := (nI_eq (by omega) (by omega)).mp b2
      subst this
      exact ⟨_, rfl, rfl⟩
theorem cmp_self (z : Int64) : lg_cmp z z = 0 := by simp [lg_cmp]
set_option maxRecDepth 100000 in
theorem ls_answer (hE : eOk E) (hL : 6 + 4 * k ≤ gL G) (hL2 : gL G < 10000) (hk : k < 512) (hI : LI G E v ep k M sz) (K : ∀ M' sz', LI G E v ep (k + 1) M' sz' → RW l G (Y_Law nm) room_1 (lawZ G) m (1024 * m) 481 (llv G E v k) [] M' sz') : RW l G (Y_Law nm) room_1 (lawZ G) m (1024 * m) 390 (llv G E v k) [] M sz := by
  obtain ⟨ca, cm, g, nd, post, y, aa, Lg, up, hv, hm, hj, h0, hg, hu, ht, ha⟩ := hI
  refine rw_aload_n d_Law_law_390 rfl (by first | exact mm_ref_r _ | exact mm_ref_n | exact mm_ref_o _) ?_
  refine rw_scr (i := 2 + 4 * k) (j := 1) d_Law_law_391 d_Law_law_392 d_Law_law_393 d_Law_law_394 d_Law_law_395 (by decide) rfl rfl (by omega) hL2 ?_
  refine rw_callV (kc := m) (ks := 1024 * m) (rest := []) d_Law_law_396 (c_answer hv) mW_VG_answer mL_Law_68 mI_VG_answer mE_VG_answer ⟨by decide, by decide⟩ hv.1 rfl rfl rfl rfl (Nat.le_of_ble_eq_true rfl) (fun r M1 sz1 hq => ?_)
  obtain ⟨e1, e2, -⟩ := id hq
  subst e1 e2
  obtain ⟨z, rfl⟩ : ∃ z : Int64, r = some (.long z) := by
    obtain ⟨z, h1, -⟩ := AnQ.same (by omega) hq hq
    exact ⟨z, h1⟩
  refine rw_stk (st' := [.long z]) rfl ?_
  obtain ⟨_, _, _, _, _, _, k0, _⟩ := id hm
  refine rw_aload_n d_Law_law_399 rfl (by first | exact mm_ref_r _ | exact mm_ref_n | exact mm_ref_o _) ?_
  refine rw_scr (i := 2 + 4 * k) (j := 1) d_Law_law_400 d_Law_law_401 d_Law_law_402 d_Law_law_403 d_Law_law_404 (by decide) rfl rfl (by omega) hL2 ?_
  refine rw_callV (kc := m) (ks := 1024 * m) (rest := [.long z]) d_Law_law_405 (c_mAnswer hm) mW_Mod_answer mL_Law_72 mI_Mod_answer mE_Mod_answer ⟨by decide, by decide⟩ k0 rfl rfl rfl rfl (Nat.le_of_ble_eq_true rfl) (fun r M2 sz2 hq2 => ?_)
  obtain ⟨f1, f2, -⟩ := id hq2
  subst f1 f2
  obtain ⟨z2, a1, rfl⟩ := AnQ.same (by omega) hq hq2
  cases a1
  refine rw_stk (st' := [.long z, .long z]) rfl ?_
  refine rw_lcmp d_Law_law_408 ?_
  rw [cmp_self]
  refine rw_if_eq_t (tgt := 481) d_Law_law_409 (by decide) (rfl) ?_
  exact K _ _ ⟨ca, cm, g, nd, post, y, aa, Lg, up, hv, hm, hj, h0, by omega, hu, ht, ha⟩
theorem at_same {cm : Nat → pCm} {nd : Nat → pN} {y : pN} {n w z : Int32} {r1 r2 : Option Value} {M1 M2 : mm_M} {s1 s2 : Nat} (hN : eN E < 7) (ht : y 3 = 1 → ∀ n, n < eN E → nd n 5 = pKd E (y 2) n) (h1 : AtQ M sz cm (eN E) nd y n w z r1 M1 s1) (h2 : MbQ M sz E cm (y 2) (y 3) n w z r2 M2 s2) : ∃ t : Int64, r1 = some (.long t) ∧ r2 = some (.long t) := by
  obtain ⟨-, -, h1⟩ := h1
  obtain ⟨-, -, h2⟩ := h2
  rcases h1 with ⟨a, rfl⟩ | ⟨a, b, rfl⟩ | ⟨nn, kk, a1, a2, a3, a4, a5, a6, rfl⟩
  · rcases h2 with ⟨c, rfl⟩ | ⟨c, d, rfl⟩ | ⟨n2, k2, c1, c2, c3, c4, c5, c6, rfl⟩
    · exact ⟨_, rfl, rfl⟩
    · exact absurd c a
    · exact absurd ⟨n2, k2, c1, c2, c3, c4, c5⟩ a
  · rcases h2 with ⟨c, rfl⟩ | ⟨c, d, rfl⟩ | ⟨n2, k2, c1, c2, c3, c4, c5, c6, rfl⟩
    · exact absurd a c
    · exact ⟨_, rfl, rfl⟩
    · omega
  · rcases h2 with ⟨c, rfl⟩ | ⟨c, d, rfl⟩ | ⟨n2, k2, c1, c2, c3, c4, c5, c6, rfl⟩
    · exact absurd ⟨nn, kk, a1, a2, a3, a4, a5⟩ c
    · omega
    · rw [a1] at c1
      rw [a3] at c3
      have e1 : nn = n2 := (nI_eq (by omega) (by omega)).mp c1
      have e2 : kk = k2 := (nI_eq (by omega) (by omega)).mp c3
      subst e1 e2
      rw [ht a6 nn a2]
      exact ⟨_, rfl, rfl⟩
set_option maxRecDepth 100000 in
theorem ls_at (hE : eOk E) (hL : 6 + 4 * k ≤ gL G) (hL2 : gL G < 10000) (hI : LI G E v ep k M sz) (K : ∀ M' sz', LI G E v ep (k + 1) M' sz' → RW l G (Y_Law nm) room_1 (lawZ G) m (1024 * m) 481 (llv G E v k) [] M' sz') : RW l G (Y_Law nm) room_1 (lawZ G) m (1024 * m) 414 (llv G E v k) [] M sz := by
  obtain ⟨ca, cm, g, nd, post, y, aa, Lg, up, hv, hm, hj, h0, hg, hu, ht, ha⟩ := hI
  have hN7 := hE.2.1
  have hC := hE.2.2.2.1
  refine rw_aload_n d_Law_law_414 rfl (by first | exact mm_ref_r _ | exact mm_ref_n | exact mm_ref_o _) ?_
  refine rw_scr (i := 2 + 4 * k) (j := 1) d_Law_law_415 d_Law_law_416 d_Law_law_417 d_Law_law_418 d_Law_law_419 (by decide) rfl rfl (by omega) hL2 ?_
  refine rw_scr (i := 2 + 4 * k) (j := 2) d_Law_law_420 d_Law_law_421 d_Law_law_422 d_Law_law_423 d_Law_law_424 (by decide) rfl rfl (by omega) hL2 ?_
  refine rw_scr (i := 2 + 4 * k) (j := 3) d_Law_law_425 d_Law_law_426 d_Law_law_427 d_Law_law_428 d_Law_law_429 (by decide) rfl rfl (by omega) hL2 ?_
  refine rw_callV (kc := m) (ks := 1024 * m) (rest := []) d_Law_law_430 (c_at hv) mW_VG_at mL_Law_73 mI_VG_at mE_VG_at ⟨by decide, by decide⟩ hv.1 rfl rfl rfl rfl (Nat.le_of_ble_eq_true rfl) (fun r M1 sz1 hq => ?_)
  obtain ⟨e1, e2, -⟩ := id hq
  subst e1 e2
  obtain ⟨z, rfl⟩ : ∃ z : Int64, r = some (.long z) := by
    rcases hq.2.2 with ⟨-, rfl⟩ | ⟨-, -, rfl⟩ | ⟨_, _, -, -, -, -, -, -, rfl⟩
    · exact ⟨_, rfl⟩
    · exact ⟨_, rfl⟩
    · exact ⟨_, rfl⟩
  refine rw_stk (st' := [.long z]) rfl ?_
  obtain ⟨_, _, _, _, _, _, k0, _⟩ := id hm
  refine rw_aload_n d_Law_law_433 rfl (by first | exact mm_ref_r _ | exact mm_ref_n | exact mm_ref_o _) ?_
  refine rw_scr (i := 2 + 4 * k) (j := 1) d_Law_law_434 d_Law_law_435 d_Law_law_436 d_Law_law_437 d_Law_law_438 (by decide) rfl rfl (by omega) hL2 ?_
  refine rw_scr (i := 2 + 4 * k) (j := 2) d_Law_law_439 d_Law_law_440 d_Law_law_441 d_Law_law_442 d_Law_law_443 (by decide) rfl rfl (by omega) hL2 ?_
  refine rw_scr (i := 2 + 4 * k) (j := 3) d_Law_law_444 d_Law_law_445 d_Law_law_446 d_Law_law_447 d_Law_law_448 (by decide) rfl rfl (by omega) hL2 ?_
  refine rw_callV (kc := m) (ks := 1024 * m) (rest := [.long z]) d_Law_law_449 (c_mAt hN7 (by omega) hm) mW_Mod_at mL_Law_77 mI_Mod_at mE_Mod_at ⟨by decide, by decide⟩ k0 rfl rfl rfl rfl (Nat.le_of_ble_eq_true rfl) (fun r M2 sz2 hq2 => ?_)
  obtain ⟨f1, f2, -⟩ := id hq2
  subst f1 f2
  obtain ⟨z2, a1, rfl⟩ := at_same hN7 ht hq hq2
  cases a1
  refine rw_stk (st' := [.long z, .long z]) rfl ?_
  refine rw_lcmp d_Law_law_452 ?_
  rw [cmp_self]
  refine rw_if_eq_t (tgt := 481) d_Law_law_453 (by decide) (rfl) ?_
  exact K _ _ ⟨ca, cm, g, nd, post, y, aa, Lg, up, hv, hm, hj, h0, by omega, hu, ht, ha⟩
theorem up_bits {nd : Nat → pN} {up : Nat} : ∀ n, (∀ j, j < n → nd j 0 = (if up.testBit j then 1 else 0)) → pUp nd n = pBits up n := by
  intro n
  induction n with
  | zero => intro _; rfl
  | succ n ih =>
    intro h
    rw [pUp, pBits, ih (fun j hj => h j (by omega)), h n (by omega)]
set_option maxRecDepth 100000 in
theorem ls_count (hE : eOk E) (hL : 6 + 4 * k ≤ gL G) (hL2 : gL G < 10000) (hI : LI G E v ep k M sz) (K : ∀ M' sz', LI G E v ep (k + 1) M' sz' → RW l G (Y_Law nm) room_1 (lawZ G) m (1024 * m) 481 (llv G E v k) [] M' sz') : RW l G (Y_Law nm) room_1 (lawZ G) m (1024 * m) 458 (llv G E v k) [] M sz := by
  obtain ⟨ca, cm, g, nd, post, y, aa, Lg, up, hv, hm, hj, h0, hg, hu, ht, ha⟩ := hI
  have hN7 := hE.2.1
  refine rw_aload_n d_Law_law_458 rfl (by first | exact mm_ref_r _ | exact mm_ref_n | exact mm_ref_o _) ?_
  refine rw_scr (i := 2 + 4 * k) (j := 1) d_Law_law_459 d_Law_law_460 d_Law_law_461 d_Law_law_462 d_Law_law_463 (by decide) rfl rfl (by omega) hL2 ?_
  refine rw_callV (kc := m) (ks := 1024 * m) (rest := []) d_Law_law_464 (c_count hv) mW_VG_count mL_Law_78 mI_VG_count mE_VG_count ⟨by decide, by decide⟩ hv.1 rfl rfl rfl rfl (Nat.le_of_ble_eq_true rfl) (fun r M1 sz1 hq => ?_)
  obtain ⟨rfl, e1, e2⟩ := hq
  subst e1 e2
  refine rw_stk (st' := [.int (pCnt E nd y (gx G (2 + 4 * k + 1)))]) rfl ?_
  obtain ⟨_, _, _, _, _, _, k0, _⟩ := id hm
  refine rw_aload_n d_Law_law_467 rfl (by first | exact mm_ref_r _ | exact mm_ref_n | exact mm_ref_o _) ?_
  refine rw_scr (i := 2 + 4 * k) (j := 1) d_Law_law_468 d_Law_law_469 d_Law_law_470 d_Law_law_471 d_Law_law_472 (by decide) rfl rfl (by omega) hL2 ?_
  refine rw_callV (kc := m) (ks := 1024 * m) (rest := [.int (pCnt E nd y (gx G (2 + 4 * k + 1)))]) d_Law_law_473 (c_mCount hN7 hm) mW_Mod_count mL_Law_81 mI_Mod_count mE_Mod_count ⟨by decide, by decide⟩ k0 rfl rfl rfl rfl (Nat.le_of_ble_eq_true rfl) (fun r M2 sz2 hq2 => ?_)
  obtain ⟨rfl, f1, f2⟩ := hq2
  subst f1 f2
  have e : mCnt E (y 2) g up ep (y 3) (gx G (2 + 4 * k + 1)) = pCnt E nd y (gx G (2 + 4 * k + 1)) := by
    unfold mCnt pCnt
    rw [hv.2.2.2.2.2.1, h0, up_bits (eN E) hu]
  refine rw_stk (st' := [.int (mCnt E (y 2) g up ep (y 3) (gx G (2 + 4 * k + 1))), .int (pCnt E nd y (gx G (2 + 4 * k + 1)))]) rfl ?_
  refine rw_icmp_eq_t (tgt := 481) d_Law_law_476 (by decide) (e.symm) ?_
  exact K _ _ ⟨ca, cm, g, nd, post, y, aa, Lg, up, hv, hm, hj, h0, by omega, hu, ht, ha⟩
end LAWSTEPB
