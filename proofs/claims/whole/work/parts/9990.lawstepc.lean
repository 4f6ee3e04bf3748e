/-! The law's steps: give, map, settle. -/
section LAWSTEPC
variable {l : Launch} {G : mm_G} {E : pE} {v ep k m : Nat} {nm : String} {M : mm_M} {sz : Nat}
theorem JS.ans {nd : Nat → pN} {post : List pMsg} {y : pN} (h : JS E (nd, post, y)) : ∀ a, a ∈ post → a.1 = 3 → a.2.2.2.2.1 < y 1 := by
  obtain ⟨-, -, -, -, -, rep, c, hJ, -⟩ := h
  exact fun a ha h3 => (hJ.2.2 a ha).2.2 (Or.inr h3)
set_option maxRecDepth 100000 in
theorem ls_give (hE : eOk E) (hL : 6 + 4 * k ≤ gL G) (hL2 : gL G < 10000) (hk : k < 512) (hI : LI G E v ep k M sz) (K : ∀ M' sz', LI G E v ep (k + 1) M' sz' → RW l G (Y_Law nm) room_1 (lawZ G) m (1024 * m) 481 (llv G E v k) [] M' sz') : RW l G (Y_Law nm) room_1 (lawZ G) (m + 1) (1024 * m + 4) 120 (llv G E v k) [] M sz := by
  obtain ⟨ca, cm, g, nd, post, y, aa, Lg, up, hv, hm, hj, h0, hg, hu, ht, ha⟩ := hI
  have hy1 := hv.2.2.2.2.2.1
  have hans : ∀ a, a ∈ post → a.1 = 3 → a.2.2.2.2.1 < g := by
    rw [← hy1]
    exact hj.ans
  have hmf : y 2 ≤ g ∧ g ≤ y 2 + 8 := by
    obtain ⟨_, _, _, _, _, _, _, _, _, _, _, _, _, ⟨a1, a2, _⟩, _⟩ := id hm
    exact ⟨a1, a2⟩
  have haa : v + vgN E + 6 ≤ aa := by
    obtain ⟨_, _, _, _, _, _, _, _, _, _, _, _, _, ⟨_, _, _, _, h, _⟩, _⟩ := id hm
    exact h
  refine rw_aload_n d_Law_law_120 rfl (by first | exact mm_ref_r _ | exact mm_ref_n | exact mm_ref_o _) ?_
  refine rw_scr (i := 2 + 4 * k) (j := 1) d_Law_law_121 d_Law_law_122 d_Law_law_123 d_Law_law_124 d_Law_law_125 (by decide) rfl rfl (by omega) hL2 ?_
  refine rw_scr (i := 2 + 4 * k) (j := 2) d_Law_law_126 d_Law_law_127 d_Law_law_128 d_Law_law_129 d_Law_law_130 (by decide) rfl rfl (by omega) hL2 ?_
  refine rw_scr (i := 2 + 4 * k) (j := 3) d_Law_law_131 d_Law_law_132 d_Law_law_133 d_Law_law_134 d_Law_law_135 (by decide) rfl rfl (by omega) hL2 ?_
  refine rw_callV (kc := m) (ks := 1024 * m) (rest := []) d_Law_law_136 (c_give hv (by omega) (fun i hi => (ha.2.2 i hi).1) hans) mW_VG_give mL_Law_21 mI_VG_give mE_VG_give ⟨by decide, by decide⟩ hv.1 rfl rfl rfl rfl (Nat.le_of_ble_eq_true rfl) (fun r M1 sz1 hq => ?_)
  have tail : ∀ (r1 : Int32) (M1 : mm_M) (sz1 : Nat), RW l G (Y_Law nm) room_1 (lawZ G) m (1024 * m) 155 (llv G E v k) [.int (gx G (2 + 4 * k + 3)), .int (gx G (2 + 4 * k + 2)), .int (gx G (2 + 4 * k + 1)), .ref (v + vgN E), .int r1] M1 sz1 → RW l G (Y_Law nm) room_1 (lawZ G) m (1024 * m) 139 (llv G E v k) [.int r1] M1 sz1 := fun r1 M1 sz1 hz => by
    refine rw_aload_n d_Law_law_139 rfl (by first | exact mm_ref_r _ | exact mm_ref_n | exact mm_ref_o _) ?_
    refine rw_scr (i := 2 + 4 * k) (j := 1) d_Law_law_140 d_Law_law_141 d_Law_law_142 d_Law_law_143 d_Law_law_144 (by decide) rfl rfl (by omega) hL2 ?_
    refine rw_scr (i := 2 + 4 * k) (j := 2) d_Law_law_145 d_Law_law_146 d_Law_law_147 d_Law_law_148 d_Law_law_149 (by decide) rfl rfl (by omega) hL2 ?_
    refine rw_scr (i := 2 + 4 * k) (j := 3) d_Law_law_150 d_Law_law_151 d_Law_law_152 d_Law_law_153 d_Law_law_154 (by decide) rfl rfl (by omega) hL2 ?_
    exact hz
  rcases hq with ⟨c, rfl, e1, e2⟩ | ⟨c, c2, rfl, e1, e2⟩ | ⟨c, rfl, rfl, kd, kx, e1, e2, hc, q1, q2⟩
  · subst e1 e2
    refine rw_stk (st' := [.int (-1)]) rfl (tail _ _ _ ?_)
    obtain ⟨_, _, _, _, _, _, k0, _⟩ := id hm
    refine rw_callV (kc := m) (ks := 1024 * m) (rest := [.int (-1)]) d_Law_law_155 (c_mGive hm (by omega)) mW_Mod_give mL_Law_25 mI_Mod_give mE_Mod_give ⟨by decide, by decide⟩ k0 rfl rfl rfl rfl (Nat.le_of_ble_eq_true rfl) (fun r M2 sz2 hq => ?_)
    rcases hq with ⟨-, rfl, f1, f2⟩ | ⟨d, -⟩ | ⟨-, -, -, kd, kx, d1, d2, d3, -⟩
    · subst f1 f2
      refine rw_stk (st' := [.int (-1), .int (-1)]) rfl ?_
      refine rw_icmp_eq_t (tgt := 481) d_Law_law_158 (by decide) (rfl) ?_
      exact K _ _ ⟨ca, cm, g, nd, post, y, aa, Lg, up, hv, hm, hj, h0, by omega, hu, ht, ha⟩
    · exact absurd d c
    · exact absurd ⟨kd, kx, d1, d2, d3⟩ c
  · subst e1 e2
    refine rw_stk (st' := [.int (-2)]) rfl (tail _ _ _ ?_)
    obtain ⟨_, _, _, _, _, _, k0, _⟩ := id hm
    refine rw_callV (kc := m) (ks := 1024 * m) (rest := [.int (-2)]) d_Law_law_155 (c_mGive hm (by omega)) mW_Mod_give mL_Law_25 mI_Mod_give mE_Mod_give ⟨by decide, by decide⟩ k0 rfl rfl rfl rfl (Nat.le_of_ble_eq_true rfl) (fun r M2 sz2 hq => ?_)
    rcases hq with ⟨d, -⟩ | ⟨-, -, rfl, f1, f2⟩ | ⟨d, -⟩
    · exact absurd c d
    · subst f1 f2
      refine rw_stk (st' := [.int (-2), .int (-2)]) rfl ?_
      refine rw_icmp_eq_t (tgt := 481) d_Law_law_158 (by decide) (rfl) ?_
      exact K _ _ ⟨ca, cm, g, nd, post, y, aa, Lg, up, hv, hm, hj, h0, by omega, hu, ht, ha⟩
    · omega
  · refine rw_stk (st' := [.int (nI g)]) rfl (tail _ _ _ ?_)
    have hm1 : MoP M1 (v + vgN E) aa Lg E cm (y 2) g up ep (y 3) := hm.kept (fun q z1 z2 => q2 q (by omega) (Or.inr z1)) (q2 _ (by omega) (Or.inr (by omega)))
    obtain ⟨_, _, _, _, _, _, k0, _⟩ := id hm1
    refine rw_callV (kc := m) (ks := 1024 * m) (rest := [.int (nI g)]) d_Law_law_155 (c_mGive hm1 (by omega)) mW_Mod_give mL_Law_25 mI_Mod_give mE_Mod_give ⟨by decide, by decide⟩ k0 rfl rfl rfl rfl (Nat.le_of_ble_eq_true rfl) (fun r M2 sz2 hq => ?_)
    rcases hq with ⟨d, -⟩ | ⟨-, d, -⟩ | ⟨-, rfl, rfl, kd2, kx2, d1, d2, d3, w1, w2⟩
    · exact absurd ⟨kd, kx, e1, e2, hc⟩ d
    · omega
    · refine rw_stk (st' := [.int (nI g), .int (nI g)]) rfl ?_
      refine rw_icmp_eq_t (tgt := 481) d_Law_law_158 (by decide) (rfl) ?_
      have b1 := hc.1
      have b2 := hc.2.1
      have b3 := d3.1
      have b4 := d3.2.1
      simp only at b1 b2 b3 b4
      rw [e1] at d1
      rw [e2] at d2
      have z1 : kd = kd2 := (nI_eq (by omega) (by omega)).mp d1
      have z2 : kx = kx2 := (nI_eq (by omega) (by omega)).mp d2
      subst z1 z2
      have p0 : pGiv y g 0 = y 0 := by rw [pGiv, pu_ne _ _ (by omega), pu_ne _ _ (by omega), pu_ne _ _ (by omega)]
      have p2 : pGiv y g 2 = y 2 := by rw [pGiv, pu_ne _ _ (by omega), pu_ne _ _ (by omega), pu_ne _ _ (by omega)]
      have p3 : pGiv y g 3 = 0 := by rw [pGiv, pu_ne _ _ (by omega), pu_ne _ _ (by omega), pu_self]
      have hjg : JS E (nd, pSend post (pReq1 (eL E (y 0)) (y 0) g), pGiv y g) := by
        have := hj.give hE (by omega) (by omega)
        rw [hy1] at this
        exact this
      have hca : ∀ i, i < g + 1 → va_up ca g sz i < sz + 1 ∧ v + vgN E + 7 ≤ va_up ca g sz i ∧ va_up ca g sz i ≠ aa := fun i hi => by
        by_cases z : i = g
        · subst z
          rw [va_up_self]
          exact ⟨by omega, ha.1, by omega⟩
        · rw [va_up_ne _ _ z]
          have := ha.2.2 i (by omega)
          exact ⟨by omega, this.2.1, this.2.2⟩
      refine K _ _ ⟨va_up ca g sz, va_up cm g (kd, kx, gx G (2 + 4 * k + 3)), g + 1, nd, _, pGiv y g, aa, Lg, up, q1.keep2 (fun q y1 y2 => w2 q (Or.inl y2)) (fun i hi => w2 _ (Or.inr (by have := (hca i hi).2.1; omega))), ?_, hjg, by rw [p0]; exact h0, by omega, hu, fun z => ?_, by omega, by omega, hca⟩
      · rw [p2, p3]
        exact w1
      · rw [p3] at z
        cases z
theorem pu_comm {y : pN} {a b : Nat} : pu (pu y 3 a) 0 b = pu (pu y 0 b) 3 a := by
  funext j
  unfold pu
  by_cases q : j = 0
  · subst q; rfl
  · rw [if_neg q, if_neg q]
set_option maxRecDepth 100000 in
theorem ls_map (hE : eOk E) (hL : 6 + 4 * k ≤ gL G) (hL2 : gL G < 10000) (hep : ep + 1 < 1000000) (hset : E.2.2 (ep + 1) = (gx G (2 + 4 * k + 1)).toBitVec.toNat &&& (2 ^ eN E - 1)) (hI : LI G E v ep k M sz) (K : ∀ M' sz', LI G E v (ep + 1) (k + 1) M' sz' → RW l G (Y_Law nm) room_1 (lawZ G) m (1024 * m) 481 (llv G E v k) [] M' sz') : RW l G (Y_Law nm) room_1 (lawZ G) m (1024 * m) 354 (llv G E v k) [] M sz := by
  obtain ⟨ca, cm, g, nd, post, y, aa, Lg, up, hv, hm, hj, h0, hg, hu, ht, ha⟩ := hI
  have hN7 := hE.2.1
  have hw : gx G (2 + 4 * k + 1) &&& nI (2 ^ eN E - 1) = nI (E.2.2 (ep + 1)) := by rw [hset]; exact and_low _ (all_lt64 _ hN7)
  have haa : v + vgN E + 6 ≤ aa := by
    obtain ⟨_, _, _, _, _, _, _, _, _, _, _, _, _, ⟨_, _, _, _, h, _⟩, _⟩ := id hm
    exact h
  subst h0
  refine rw_aload_n d_Law_law_354 rfl (by first | exact mm_ref_r _ | exact mm_ref_n | exact mm_ref_o _) ?_
  refine rw_scr (i := 2 + 4 * k) (j := 1) d_Law_law_355 d_Law_law_356 d_Law_law_357 d_Law_law_358 d_Law_law_359 (by decide) rfl rfl (by omega) hL2 ?_
  refine rw_callV (kc := m) (ks := 1024 * m) (rest := []) d_Law_law_360 (c_map hv hep hw) mW_VG_map mL_Law_59 mI_VG_map mE_VG_map ⟨by decide, by decide⟩ hv.1 rfl rfl rfl rfl (Nat.le_of_ble_eq_true rfl) (fun r M1 sz1 hq => ?_)
  obtain ⟨rfl, rfl, q1, q2⟩ := hq
  refine rw_stk (st' := [.int (nI (y 0 + 1))]) rfl ?_
  have hm1 := hm.fr q2
  obtain ⟨_, _, _, _, _, _, k0, _⟩ := id hm1
  refine rw_aload_n d_Law_law_363 rfl (by first | exact mm_ref_r _ | exact mm_ref_n | exact mm_ref_o _) ?_
  refine rw_scr (i := 2 + 4 * k) (j := 1) d_Law_law_364 d_Law_law_365 d_Law_law_366 d_Law_law_367 d_Law_law_368 (by decide) rfl rfl (by omega) hL2 ?_
  refine rw_callV (kc := m) (ks := 1024 * m) (rest := [.int (nI (y 0 + 1))]) d_Law_law_369 (c_mMap hN7 hw hep hm1) mW_Mod_map mL_Law_62 mI_Mod_map mE_Mod_map ⟨by decide, by decide⟩ k0 rfl rfl rfl rfl (Nat.le_of_ble_eq_true rfl) (fun r M2 sz2 hq => ?_)
  obtain ⟨rfl, rfl, w1, w2⟩ := hq
  refine rw_stk (st' := [.int (nI (y 0 + 1)), .int (nI (y 0 + 1))]) rfl ?_
  refine rw_icmp_eq_t (tgt := 481) d_Law_law_372 (by decide) (rfl) ?_
  have hjr : JS E (nd, pSend post (pProc (y 0 + 1) (fun n => y (20 + n)) (eN E)), pu (pu y 3 0) 0 (y 0 + 1)) := by
    rw [pu_comm]
    exact (hj.renew hep).calm
  have p2 : pu (pu y 3 0) 0 (y 0 + 1) 2 = y 2 := by rw [pu_ne _ _ (by omega), pu_ne _ _ (by omega)]
  have p3 : pu (pu y 3 0) 0 (y 0 + 1) 3 = 0 := by rw [pu_ne _ _ (by omega), pu_self]
  refine K _ _ ⟨ca, cm, g, nd, _, _, aa, Lg, up, q1.keep2 (fun q y1 y2 => w2 q (by omega)) (fun i hi => w2 _ (by have := (ha.2.2 i hi).2.1; omega)), ?_, hjr, pu_self _ _ _, by omega, hu, fun z => ?_, ha⟩
  · rw [p2, p3]
    exact w1
  · rw [p3] at z
    cases z
theorem IS.calm {e w : Nat} {nd : Nat → pN} {post : List pMsg} {y : pN} (h : IS E e (nd, post, y)) : IS E e (nd, post, pu y 3 w) := by
  obtain ⟨h1, h2, h3, h4, h5⟩ := h
  refine ⟨by show pu y 3 w 0 = e; rw [pu_ne _ _ (by omega)]; exact h1, h2, fun n hn z => h3 n hn ?_, h4, h5⟩
  have z : pu y 3 w (20 + n) = e := z
  rw [pu_ne _ _ (by omega)] at z
  exact z
theorem JXI.jc {e g td : Nat} {U : Nat → Nat} (hE : eOk E) : Jc E (fun s => JX E e g td U s ∧ IS E e s) := by
  have hj := JX.jc (ep := e) (g := g) (td := td) (U := U) hE
  exact ⟨fun s hs => hj.1 s hs.1, fun s i a hs ha => ⟨hj.2.1 s i a hs.1 ha, hs.2.arr hE hs.1.1 (List.mem_of_getElem? ha)⟩, fun s i hs => ⟨hj.2.2.1 s i hs.1, hs.2.sub (fun _ ha => List.mem_of_mem_eraseIdx ha)⟩, fun s hs => ⟨hj.2.2.2 s hs.1, hs.2.tick hE hs.1.1⟩⟩
set_option maxRecDepth 100000 in
theorem ls_settle (hE : eOk E) (hep : ep + 1 < 1000000) (hset : E.2.2 (ep + 1) = 2 ^ eN E - 1) (hI : LI G E v ep k M sz) (K : ∀ M' sz', LI G E v (ep + 1) (k + 1) M' sz' → RW l G (Y_Law nm) room_1 (lawZ G) m (1024 * m) 481 (llv G E v k) [] M' sz') : RW l G (Y_Law nm) room_1 (lawZ G) (m + 1) (1024 * m + 1024) 377 (llv G E v k) [] M sz := by
  obtain ⟨ca, cm, g, nd, post, y, aa, Lg, up, hv, hm, hj, h0, hg, hu, ht, ha⟩ := hI
  have hN7 := hE.2.1
  have hy1 := hv.2.2.2.2.2.1
  have hw : (-1 : Int32) &&& nI (2 ^ eN E - 1) = nI (E.2.2 (ep + 1)) := by
    rw [hset]
    have : ∀ N, N < 7 → (-1 : Int32) &&& nI (2 ^ N - 1) = nI (2 ^ N - 1) := by decide +kernel
    exact this _ hN7
  have haa : v + vgN E + 6 ≤ aa := by
    obtain ⟨_, _, _, _, _, _, _, _, _, _, _, _, _, ⟨_, _, _, _, h, _⟩, _⟩ := id hm
    exact h
  have hcm : ∀ i, i < g → cOk (cm i) := fun i hi => (hv.2.2.1.2.1 i hi).1
  subst h0
  have hjr : JS E (pUps nd (eN E), pSend post (pProc (y 0 + 1) (fun n => y (20 + n)) (eN E)), pu (pu y 3 0) 0 (y 0 + 1)) := by
    rw [pu_comm]
    exact ((hj.ups (eN E)).renew hep).calm
  have hir : IS E (y 0 + 1) (pUps nd (eN E), pSend post (pProc (y 0 + 1) (fun n => y (20 + n)) (eN E)), pu (pu y 3 0) 0 (y 0 + 1)) := by
    rw [pu_comm]
    exact (IS.zero hE hj).calm
  have hups : ∀ n, n < eN E → pUps nd (eN E) n 0 = 1 := fun n hn => by
    unfold pUps
    rw [if_pos hn, pu_self]
  have hx : JX E (y 0 + 1) g (y 2) (fun _ => 1) (pUps nd (eN E), pSend post (pProc (y 0 + 1) (fun n => y (20 + n)) (eN E)), pu (pu y 3 0) 0 (y 0 + 1)) := ⟨hjr, by show pu (pu y 3 0) 0 (y 0 + 1) 0 = y 0 + 1; exact pu_self _ _ _, by show pu (pu y 3 0) 0 (y 0 + 1) 1 = g; rw [pu_ne _ _ (by omega), pu_ne _ _ (by omega)]; exact hy1, by show pu (pu y 3 0) 0 (y 0 + 1) 2 = y 2; rw [pu_ne _ _ (by omega), pu_ne _ _ (by omega)], by show pu (pu y 3 0) 0 (y 0 + 1) 3 = 0; rw [pu_ne _ _ (by omega), pu_self], hups⟩
  have hjc := JXI.jc (E := E) (e := y 0 + 1) (g := g) (td := y 2) (U := fun _ => 1) hE
  obtain ⟨hl, hkb⟩ := full_ok hE hset
  refine rw_aload_n d_Law_law_377 rfl (by first | exact mm_ref_r _ | exact mm_ref_n | exact mm_ref_o _) ?_
  refine rw_callV (kc := m + 1) (ks := 1024 * m + 1024) (rest := []) d_Law_law_378 (c_settle (J := fun s => JX E (y 0 + 1) g (y 2) (fun _ => 1) s ∧ IS E (y 0 + 1) s) hjc hv hep hw ⟨hx, hir⟩) mW_VG_settle mL_Law_63 mI_VG_settle mE_VG_settle ⟨by decide, by decide⟩ hv.1 rfl rfl rfl rfl (Nat.le_of_ble_eq_true rfl) (fun r M1 sz1 hq => ?_)
  have hend := settle_ends hE hl (s := (pUps nd (eN E), pSend post (pProc (y 0 + 1) (fun n => y (20 + n)) (eN E)), pu (pu y 3 0) 0 (y 0 + 1))) ⟨hjr, hir, by show (List.take 64 _).length ≤ 64; rw [List.length_take]; omega⟩
  obtain ⟨rfl, q3, ⟨j, hj1, -, hdn, rfl, q1⟩ | hno⟩ := hq
  case inr =>
    obtain ⟨j, hj1, hj2⟩ := hend
    exact absurd hj2 (hno j hj1)
  generalize hs0 : (pUps nd (eN E), pSend post (pProc (y 0 + 1) (fun n => y (20 + n)) (eN E)), pu (pu y 3 0) 0 (y 0 + 1)) = s0 at *
  have hbj := Jc.all hjc 1000000 _ (Jc.it hjc ⟨hx, hir⟩ j)
  have hsil := silence hE hbj.1.1 hbj.2 hl hdn
  have hfin := Jc.it hjc ⟨hx, hir⟩ (j + 1)
  have hg1 : (pBA E 1000000 (pIt E s0 j)).2.2 1 = g := hbj.1.2.2.1
  rw [hg1] at hsil
  have hsil : ∀ n, n < eN E → (pIt E s0 (j + 1)).1 n 5 = (if eKb E (y 0 + 1) n then g else 0) := hsil
  generalize pIt E s0 (j + 1) = t at *
  obtain ⟨f1, f2, f3, f4, f5, f6⟩ := hfin.1
  rw [hy1]
  refine rw_stk (st' := [.int (nI (g - y 2))]) rfl ?_
  have hm1 := hm.fr q3
  obtain ⟨_, _, _, _, _, _, k0, _⟩ := id hm1
  refine rw_aload_n d_Law_law_381 rfl (by first | exact mm_ref_r _ | exact mm_ref_n | exact mm_ref_o _) ?_
  refine rw_callV (kc := m) (ks := 1024 * m) (rest := [.int (nI (g - y 2))]) d_Law_law_382 (c_mSettle hN7 hset hep hcm hm1 (by omega) ha.2.1) mW_Mod_settle mL_Law_67 mI_Mod_settle mE_Mod_settle ⟨by decide, by decide⟩ k0 rfl rfl rfl rfl (Nat.le_of_ble_eq_true rfl) (fun r M2 sz2 hq => ?_)
  obtain ⟨rfl, aa', L', w1, w2, w3⟩ := hq
  refine rw_stk (st' := [.int (nI (g - y 2)), .int (nI (g - y 2))]) rfl ?_
  refine rw_icmp_eq_t (tgt := 481) d_Law_law_385 (by decide) (rfl) ?_
  have p2 : pu (pu t.2.2 2 (t.2.2 1)) 3 1 2 = g := by rw [pu_ne _ _ (by omega), pu_self]; exact f3
  have p3 : pu (pu t.2.2 2 (t.2.2 1)) 3 1 3 = 1 := pu_self _ _ _
  have p0 : pu (pu t.2.2 2 (t.2.2 1)) 3 1 0 = y 0 + 1 := by rw [pu_ne _ _ (by omega), pu_ne _ _ (by omega)]; exact f2
  have hjt : JS E (t.1, t.2.1, pu (pu t.2.2 2 (t.2.2 1)) 3 1) := JS.tell f1 hdn.2
  have haa2 : v + vgN E + 6 ≤ aa' := by
    obtain ⟨_, _, _, _, _, _, _, _, _, _, _, _, _, ⟨_, _, _, _, h, _⟩, _⟩ := id w1
    exact h
  have hca : ∀ i, i < g → ca i < sz2 ∧ v + vgN E + 7 ≤ ca i ∧ ca i ≠ aa' := fun i hi => by
    have := ha.2.2 i hi
    rcases w2 with ⟨z1, z2⟩ | ⟨z1, z2⟩
    · rw [z1, z2]; exact this
    · rw [z1, z2]
      exact ⟨by omega, this.2.1, by omega⟩
  have q1 : VgP G M1 ca cm g E v t.1 t.2.1 (pu (pu t.2.2 2 (t.2.2 1)) 3 1) := q1
  refine K _ _ ⟨ca, cm, g, t.1, t.2.1, pu (pu t.2.2 2 (t.2.2 1)) 3 1, aa', L', 2 ^ eN E - 1, q1.keep2 (fun q y1 y2 => w3 q (by omega) (Or.inl y2) (by omega)) (fun i hi => w3 _ (ha.2.2 i hi).1 (Or.inr (by have := (ha.2.2 i hi).2.1; omega)) (ha.2.2 i hi).2.2), ?_, hjt, p0, by omega, fun n hn => ?_, fun _ n hn => ?_, by rcases w2 with ⟨z1, z2⟩ | ⟨z1, z2⟩ <;> omega, by rcases w2 with ⟨z1, z2⟩ | ⟨z1, z2⟩ <;> omega, hca⟩
  · rw [p2, p3]
    exact w1
  · rw [f6 n hn, Nat.testBit_two_pow_sub_one, decide_eq_true hn]
    rfl
  · rw [p2, hsil n hn, hkb n hn]
    unfold pKd
    by_cases z : pBef n (eN E) < eC E
    · rw [decide_eq_true z, if_pos rfl, if_pos z]
    · rw [decide_eq_false z, if_neg (by decide), if_neg z]
end LAWSTEPC
