/-! The law: its loop, its beginning. -/
section LAWLOOP
variable {l : Launch} {G : mm_G} {E : pE} {v : Nat} {nm : String}
theorem d_Law_cell_0 : decode method_2_code 0 = .ok (.iload_n 1, 1) := by decide +kernel
theorem d_Law_cell_1 : decode method_2_code 1 = .ok (.aload_n 0, 1) := by decide +kernel
theorem d_Law_cell_2 : decode method_2_code 2 = .ok (.arraylength, 1) := by decide +kernel
theorem d_Law_cell_3 : decode method_2_code 3 = .ok (.if_icmp .ge 9, 3) := by decide +kernel
theorem d_Law_cell_6 : decode method_2_code 6 = .ok (.aload_n 0, 1) := by decide +kernel
theorem d_Law_cell_7 : decode method_2_code 7 = .ok (.iload_n 1, 1) := by decide +kernel
theorem d_Law_cell_8 : decode method_2_code 8 = .ok (.iaload, 1) := by decide +kernel
theorem d_Law_cell_9 : decode method_2_code 9 = .ok (.goto 4, 3) := by decide +kernel
theorem d_Law_cell_12 : decode method_2_code 12 = .ok (.iconst 0, 1) := by decide +kernel
theorem d_Law_cell_13 : decode method_2_code 13 = .ok (.ireturn, 1) := by decide +kernel
/-- a number of the script, or 0 -/
def lcell (G : mm_G) (i : Nat) : Int32 := if i < gL G then gx G i else 0
theorem c_cell {M : mm_M} {sz i : Nat} (hi : i < 100) (hL : gL G < 10000) : CT l G Y_Law_cell ds_Law_cell (rm 1) [.ref (gb G), .int (nI i)] M sz (fun r M' sz' => r = some (.int (lcell G i)) ∧ M' = M ∧ sz' = sz) := by
  refine CT.of (by decide) (Nat.le_of_ble_eq_true rfl) ?_
  refine rw_iload_n d_Law_cell_0 rfl ?_
  refine rw_aload_n d_Law_cell_1 rfl (mm_ref_r _) ?_
  refine rw_slen (v := nI (gL G)) d_Law_cell_2 rfl ?_
  unfold lcell
  by_cases c : i < gL G
  · rw [if_pos c]
    refine rw_icmp_ge_f (tgt := 12) d_Law_cell_3 (by decide) (nI_ge (a := i) (b := gL G) c (by omega)) ?_
    refine rw_aload_n d_Law_cell_6 rfl (mm_ref_r _) ?_
    refine rw_iload_n d_Law_cell_7 rfl ?_
    refine rw_sld d_Law_cell_8 (vp_in_nI c (by omega)) ?_
    rw [nI_c (by omega)]
    refine rw_goto (tgt := 13) d_Law_cell_9 (by decide) ?_
    exact rw_iret d_Law_cell_13 rfl ⟨rfl, rfl, rfl⟩
  · rw [if_neg c]
    refine rw_icmp_ge_t (tgt := 12) d_Law_cell_3 (by decide) (nI_le (a := gL G) (b := i) (by omega) (by omega)) ?_
    refine rw_iconst (v := 0) d_Law_cell_12 (by decide) ?_
    exact rw_iret d_Law_cell_13 rfl ⟨rfl, rfl, rfl⟩
theorem nI_4 (k : Nat) : nI (2 + 4 * k) + 4 = nI (2 + 4 * (k + 1)) := by
  rw [show (4 : Int32) = nI 4 from rfl, nI_add]
  rfl
set_option maxRecDepth 100000 in
theorem law_loop (hE : eOk E) (hL : gL G ≤ 2050) (hset : ∀ i, i < 512 → (lop (gx G) i = 8 → E.2.2 (lep (gx G) i + 1) = (gx G (2 + 4 * i + 1)).toBitVec.toNat &&& (2 ^ eN E - 1)) ∧ (lop (gx G) i = 9 → E.2.2 (lep (gx G) i + 1) = 2 ^ eN E - 1)) :
    ∀ (m k : Nat) (M : mm_M) (sz : Nat), m + k = 512 → LI G E v (lep (gx G) k) k M sz → RW l G (Y_Law nm) room_1 (lawZ G) m (1024 * m) 38 (llv G E v k) [] M sz := by
  intro m
  induction m with
  | zero =>
    intro k M sz hk hI
    have : k = 512 := by omega
    subst this
    refine rw_iload_n d_Law_law_38 rfl ?_
    refine rw_aload_n d_Law_law_39 rfl (by first | exact mm_ref_r _ | exact mm_ref_n | exact mm_ref_o _) ?_
    refine rw_slen (v := nI (gL G)) d_Law_law_40 rfl ?_
    refine rw_iconst (v := 4) d_Law_law_41 (by decide) ?_
    refine rw_isub d_Law_law_42 ?_
    refine rw_stk (st' := [.int (iI ((gL G : Int) - 4)), .int (iI 2050)]) (by rw [show (4 : Int32) = nI 4 from rfl, nI_subI]; rfl) ?_
    refine rw_icmp_gt_t (tgt := 487) d_Law_law_43 (by decide) ((iI_lt (by omega) (by omega) (by omega) (by omega)).mpr (by omega)) ?_
    refine rw_iconst (v := 1) d_Law_law_487 (by decide) ?_
    exact rw_lawret d_Law_law_488
  | succ m ih =>
    intro k M sz hk hI
    have hep := lep_le (gx G) k
    obtain ⟨hs8, hs9⟩ := hset k (by omega)
    refine rw_iload_n d_Law_law_38 rfl ?_
    refine rw_aload_n d_Law_law_39 rfl (by first | exact mm_ref_r _ | exact mm_ref_n | exact mm_ref_o _) ?_
    refine rw_slen (v := nI (gL G)) d_Law_law_40 rfl ?_
    refine rw_iconst (v := 4) d_Law_law_41 (by decide) ?_
    refine rw_isub d_Law_law_42 ?_
    refine rw_stk (st' := [.int (iI ((gL G : Int) - 4)), .int (iI ((2 + 4 * k : Nat) : Int))]) (by rw [show (4 : Int32) = nI 4 from rfl, nI_subI, nI_iI (2 + 4 * k)]; rfl) ?_
    by_cases c : 6 + 4 * k ≤ gL G
    case neg =>
      refine rw_icmp_gt_t (tgt := 487) d_Law_law_43 (by decide) ((iI_lt (by omega) (by omega) (by omega) (by omega)).mpr (by omega)) ?_
      refine rw_iconst (v := 1) d_Law_law_487 (by decide) ?_
      exact rw_lawret d_Law_law_488
    refine rw_icmp_gt_f (tgt := 487) d_Law_law_43 (by decide) (fun z => by have := (iI_lt (by omega) (by omega) (by omega) (by omega)).mp z; omega) ?_
    have K : ∀ ep', lep (gx G) (k + 1) = ep' → ∀ M' sz', LI G E v ep' (k + 1) M' sz' → RW l G (Y_Law nm) room_1 (lawZ G) m (1024 * m) 481 (llv G E v k) [] M' sz' := fun ep' he M' sz' hI' => by
      subst he
      refine rw_iinc d_Law_law_481 (Nat.le_of_ble_eq_true rfl) rfl rfl rfl ?_
      refine rw_lv (lv' := llv G E v (k + 1)) (by
        intro q hq
        simp only [llv, List.mem_cons, List.not_mem_nil, or_false] at hq
        rcases hq with rfl | rfl | rfl | rfl
        · rfl
        · rfl
        · rfl
        · rw [← nI_4]; rfl) ?_
      refine rw_goto (tgt := 38) d_Law_law_484 (by decide) ?_
      exact ih (k + 1) M' sz' (by omega) hI'
    have K0 : ∀ M' sz', LI G E v (lep (gx G) k) (k + 1) M' sz' → lop (gx G) k ≠ 8 → lop (gx G) k ≠ 9 → RW l G (Y_Law nm) room_1 (lawZ G) m (1024 * m) 481 (llv G E v k) [] M' sz' := fun M' sz' hI' h8 h9 => K _ (by rw [lep, if_neg (by omega)]; rfl) M' sz' hI'
    have K1 : ∀ M' sz', LI G E v (lep (gx G) k + 1) (k + 1) M' sz' → (lop (gx G) k = 8 ∨ lop (gx G) k = 9) → RW l G (Y_Law nm) room_1 (lawZ G) m (1024 * m) 481 (llv G E v k) [] M' sz' := fun M' sz' hI' h8 => K _ (by rw [lep, if_pos h8]) M' sz' hI'
    refine rw_aload_n d_Law_law_46 rfl (by first | exact mm_ref_r _ | exact mm_ref_n | exact mm_ref_o _) ?_
    refine rw_iload_n d_Law_law_47 rfl ?_
    refine rw_sld d_Law_law_48 (vp_in_nI (show 2 + 4 * k < gL G by omega) (by omega)) ?_
    rw [nI_c (by omega)]
    refine rw_bipush (v := 15) d_Law_law_49 (by decide) ?_
    refine rw_iand d_Law_law_51 ?_
    refine rw_stk (st' := [.int (nI (lop (gx G) k))]) (by rw [show (15 : Int32) = nI 15 from rfl, and_low _ (by omega)]; rfl) ?_
    have hop : lop (gx G) k ≤ 15 := Nat.and_le_right
    have fw : ∀ pc, RW l G (Y_Law nm) room_1 (lawZ G) m (1024 * m) pc (llv G E v k) [] M sz → RW l G (Y_Law nm) room_1 (lawZ G) (m + 1) (1024 * (m + 1)) pc (llv G E v k) [] M sz := fun pc h => rw_fewer (kc' := m) (ks' := 1024 * m) (by omega) (by omega) h
    generalize hopv : lop (gx G) k = op at *
    rcases (show op = 0 ∨ op = 1 ∨ op = 2 ∨ op = 3 ∨ op = 4 ∨ op = 5 ∨ op = 6 ∨ op = 7 ∨ op = 8 ∨ op = 9 ∨ op = 10 ∨ op = 11 ∨ op = 12 ∨ 12 < op by omega) with rfl | rfl | rfl | rfl | rfl | rfl | rfl | rfl | rfl | rfl | rfl | rfl | rfl | ho
    · refine rw_tabIn (off := 68) (tgt := 120) d_Law_law_52 (by decide) (by decide) (by decide) (by decide) ?_
      refine rw_fewer (kc' := m + 1) (ks' := 1024 * m + 4) (by omega) (by omega) ?_
      exact ls_give hE c (by omega) (by omega) hI (fun M' sz' h => K0 M' sz' h (by omega) (by omega))
    · refine rw_tabIn (off := 111) (tgt := 163) d_Law_law_52 (by decide) (by decide) (by decide) (by decide) ?_
      exact fw _ (ls_deliver hE c (by omega) hI (fun M' sz' h => K0 M' sz' h (by omega) (by omega)))
    · refine rw_tabIn (off := 132) (tgt := 184) d_Law_law_52 (by decide) (by decide) (by decide) (by decide) ?_
      exact fw _ (ls_lose hE c (by omega) hI (fun M' sz' h => K0 M' sz' h (by omega) (by omega)))
    · refine rw_tabIn (off := 153) (tgt := 205) d_Law_law_52 (by decide) (by decide) (by decide) (by decide) ?_
      exact fw _ (ls_twice hE c (by omega) hI (fun M' sz' h => K0 M' sz' h (by omega) (by omega)))
    · refine rw_tabIn (off := 174) (tgt := 226) d_Law_law_52 (by decide) (by decide) (by decide) (by decide) ?_
      exact fw _ (ls_stir hE c (by omega) hI (fun M' sz' h => K0 M' sz' h (by omega) (by omega)))
    · refine rw_tabIn (off := 207) (tgt := 259) d_Law_law_52 (by decide) (by decide) (by decide) (by decide) ?_
      exact fw _ (ls_tick hE c (by omega) hI (fun M' sz' h => K0 M' sz' h (by omega) (by omega)))
    · refine rw_tabIn (off := 230) (tgt := 282) d_Law_law_52 (by decide) (by decide) (by decide) (by decide) ?_
      exact fw _ (ls_crash hE c (by omega) hI (fun M' sz' h => K0 M' sz' h (by omega) (by omega)))
    · refine rw_tabIn (off := 279) (tgt := 331) d_Law_law_52 (by decide) (by decide) (by decide) (by decide) ?_
      exact fw _ (ls_restart hE c (by omega) hI (fun M' sz' h => K0 M' sz' h (by omega) (by omega)))
    · refine rw_tabIn (off := 302) (tgt := 354) d_Law_law_52 (by decide) (by decide) (by decide) (by decide) ?_
      exact fw _ (ls_map hE c (by omega) (by omega) (hs8 rfl) hI (fun M' sz' h => K1 M' sz' h (Or.inl rfl)))
    · refine rw_tabIn (off := 325) (tgt := 377) d_Law_law_52 (by decide) (by decide) (by decide) (by decide) ?_
      refine rw_fewer (kc' := m + 1) (ks' := 1024 * m + 1024) (by omega) (by omega) ?_
      exact ls_settle hE (by omega) (hs9 rfl) hI (fun M' sz' h => K1 M' sz' h (Or.inr rfl))
    · refine rw_tabIn (off := 338) (tgt := 390) d_Law_law_52 (by decide) (by decide) (by decide) (by decide) ?_
      exact fw _ (ls_answer hE c (by omega) (by omega) hI (fun M' sz' h => K0 M' sz' h (by omega) (by omega)))
    · refine rw_tabIn (off := 362) (tgt := 414) d_Law_law_52 (by decide) (by decide) (by decide) (by decide) ?_
      exact fw _ (ls_at hE c (by omega) hI (fun M' sz' h => K0 M' sz' h (by omega) (by omega)))
    · refine rw_tabIn (off := 406) (tgt := 458) d_Law_law_52 (by decide) (by decide) (by decide) (by decide) ?_
      exact fw _ (ls_count hE c (by omega) hI (fun M' sz' h => K0 M' sz' h (by omega) (by omega)))
    · refine rw_tabOut (tgt := 481) d_Law_law_52 (Or.inr (by rw [nI_toInt (by omega)]; omega)) (by decide) ?_
      obtain ⟨ca, cm, g, nd, post, y, aa, Lg, up, hv, hm, hj, h0, hg, hu, ht, ha⟩ := hI
      exact fw _ (K0 M sz ⟨ca, cm, g, nd, post, y, aa, Lg, up, hv, hm, hj, h0, by omega, hu, ht, ha⟩ (by omega) (by omega))
set_option maxRecDepth 100000 in
/-- the law, from its entry -/
theorem law_start (hL : gL G ≤ 2050) : RW l G (Y_Law nm) room_1 (lawZ G) 600000 7302250 0 [(0, .ref (gb G))] [] (fun _ => none) (gh G) := by
  obtain ⟨n1, n2⟩ := clp_lo (lo := 3) (hi := 6) (by omega) (lcell G 0)
  obtain ⟨c1, c2⟩ := clp_lo (lo := 2) (hi := 3) (by omega) (lcell G 1)
  obtain ⟨hE, hEE⟩ := lE_ok (N := clp 3 6 (lcell G 0)) (C := clp 2 3 (lcell G 1)) (x := gx G) n1 n2 c1 c2
  have hset : ∀ i, i < 512 → (lop (gx G) i = 8 → (lE (clp 3 6 (lcell G 0)) (clp 2 3 (lcell G 1)) (gx G)).2.2 (lep (gx G) i + 1) = (gx G (2 + 4 * i + 1)).toBitVec.toNat &&& (2 ^ eN (lE (clp 3 6 (lcell G 0)) (clp 2 3 (lcell G 1)) (gx G)) - 1)) ∧ (lop (gx G) i = 9 → (lE (clp 3 6 (lcell G 0)) (clp 2 3 (lcell G 1)) (gx G)).2.2 (lep (gx G) i + 1) = 2 ^ eN (lE (clp 3 6 (lcell G 0)) (clp 2 3 (lcell G 1)) (gx G)) - 1) := fun i hi => lE_set (by omega)
  have hn : eN (lE (clp 3 6 (lcell G 0)) (clp 2 3 (lcell G 1)) (gx G)) = clp 3 6 (lcell G 0) := rfl
  have hc : eC (lE (clp 3 6 (lcell G 0)) (clp 2 3 (lcell G 1)) (gx G)) = clp 2 3 (lcell G 1) := rfl
  generalize lE (clp 3 6 (lcell G 0)) (clp 2 3 (lcell G 1)) (gx G) = E at *
  refine rw_fewer (kc' := 512 + 6 + 1 + 426 + 1) (ks' := 1024 * 512 + 168 + 14 + 6421 + 5) (by decide) (by decide) ?_
  refine rw_new (N := 5) (kc := 512 + 6 + 1 + 426) (ks := 1024 * 512 + 168 + 14 + 6421) d_Law_law_0 nN_Law_7 ?_
  refine rw_dup d_Law_law_3 rfl ?_
  refine rw_aload_n d_Law_law_4 rfl (by first | exact mm_ref_r _ | exact mm_ref_n | exact mm_ref_o _) ?_
  refine rw_iconst (v := 0) d_Law_law_5 (by decide) ?_
  refine rw_callS (kc := 512 + 6 + 1 + 426) (ks := 1024 * 512 + 168 + 14 + 6421) (rest := [.ref (gh G), .ref (gh G)]) d_Law_law_6 (c_cell (i := 0) (by omega) (by omega)) mW_Law_cell mL_Law_9 mS_Law_cell ⟨by decide, by decide⟩ rfl rfl (Nat.le_of_ble_eq_true rfl) (fun r M1 sz1 hq => ?_)
  obtain ⟨rfl, rfl, rfl⟩ := hq
  refine rw_stk (st' := [.int (lcell G 0), .ref (gh G), .ref (gh G)]) rfl ?_
  refine rw_aload_n d_Law_law_9 rfl (by first | exact mm_ref_r _ | exact mm_ref_n | exact mm_ref_o _) ?_
  refine rw_iconst (v := 1) d_Law_law_10 (by decide) ?_
  refine rw_callS (kc := 512 + 6 + 1 + 426) (ks := 1024 * 512 + 168 + 14 + 6421) (rest := [.int (lcell G 0), .ref (gh G), .ref (gh G)]) d_Law_law_11 (c_cell (i := 1) (by omega) (by omega)) mW_Law_cell mL_Law_9 mS_Law_cell ⟨by decide, by decide⟩ rfl rfl (Nat.le_of_ble_eq_true rfl) (fun r M1 sz1 hq => ?_)
  obtain ⟨rfl, rfl, rfl⟩ := hq
  refine rw_stk (st' := [.int (lcell G 1), .int (lcell G 0), .ref (gh G), .ref (gh G)]) rfl ?_
  refine rw_callI (kc := 512 + 6 + 1) (ks := 1024 * 512 + 168 + 14) (rest := [.ref (gh G)]) d_Law_law_14 (c_vgInit (E := E) (ca := fun _ => 0) (cm := fun _ => (0, 0, 0)) (v := gh G) hEE hn hc (mup_self _ _ _)) mW_VG_init mL_Law_15 mI_VG_init rfl rfl ⟨by decide, by decide⟩ rfl rfl (Nat.le_of_ble_eq_true rfl) (fun r M1 sz1 hq => ?_)
  obtain ⟨rfl, rfl, q1, q2⟩ := hq
  refine rw_stk (st' := [.ref (gh G)]) rfl ?_
  refine rw_astore_n d_Law_law_17 (Nat.le_of_ble_eq_true rfl) (mm_ref_r _) rfl ?_
  refine rw_new (N := 14) (kc := 512 + 6) (ks := 1024 * 512 + 168) d_Law_law_18 nN_Law_18 ?_
  refine rw_dup d_Law_law_21 rfl ?_
  refine rw_aload_n d_Law_law_22 rfl (by first | exact mm_ref_r _ | exact mm_ref_n | exact mm_ref_o _) ?_
  refine rw_iconst (v := 0) d_Law_law_23 (by decide) ?_
  refine rw_callS (kc := 512 + 6) (ks := 1024 * 512 + 168) (rest := [.ref (gh G + vgN E), .ref (gh G + vgN E)]) d_Law_law_24 (c_cell (i := 0) (by omega) (by omega)) mW_Law_cell mL_Law_9 mS_Law_cell ⟨by decide, by decide⟩ rfl rfl (Nat.le_of_ble_eq_true rfl) (fun r M1 sz1 hq => ?_)
  obtain ⟨rfl, rfl, rfl⟩ := hq
  refine rw_stk (st' := [.int (lcell G 0), .ref (gh G + vgN E), .ref (gh G + vgN E)]) rfl ?_
  refine rw_aload_n d_Law_law_27 rfl (by first | exact mm_ref_r _ | exact mm_ref_n | exact mm_ref_o _) ?_
  refine rw_iconst (v := 1) d_Law_law_28 (by decide) ?_
  refine rw_callS (kc := 512 + 6) (ks := 1024 * 512 + 168) (rest := [.int (lcell G 0), .ref (gh G + vgN E), .ref (gh G + vgN E)]) d_Law_law_29 (c_cell (i := 1) (by omega) (by omega)) mW_Law_cell mL_Law_9 mS_Law_cell ⟨by decide, by decide⟩ rfl rfl (Nat.le_of_ble_eq_true rfl) (fun r M1 sz1 hq => ?_)
  obtain ⟨rfl, rfl, rfl⟩ := hq
  refine rw_stk (st' := [.int (lcell G 1), .int (lcell G 0), .ref (gh G + vgN E), .ref (gh G + vgN E)]) rfl ?_
  refine rw_callI (kc := 512) (ks := 1024 * 512) (rest := [.ref (gh G + vgN E)]) d_Law_law_32 (c_mInit (E := E) (cm := fun _ => (0, 0, 0)) (mo := gh G + vgN E) hEE hn hc (mup_self _ _ _)) mW_Mod_init mL_Law_20 mI_Mod_init rfl rfl ⟨by decide, by decide⟩ rfl rfl (Nat.le_of_ble_eq_true rfl) (fun r M2 sz2 hq => ?_)
  obtain ⟨rfl, rfl, w1, w2⟩ := hq
  refine rw_stk (st' := [.ref (gh G + vgN E)]) rfl ?_
  refine rw_astore_n d_Law_law_35 (Nat.le_of_ble_eq_true rfl) (mm_ref_r _) rfl ?_
  refine rw_iconst (v := 2) d_Law_law_36 (by decide) ?_
  refine rw_istore_n d_Law_law_37 (Nat.le_of_ble_eq_true rfl) rfl ?_
  refine rw_lv (lv' := llv G E (gh G) 0) (by
    intro q hq
    simp only [llv, List.mem_cons, List.not_mem_nil, or_false] at hq
    rcases hq with rfl | rfl | rfl | rfl <;> rfl) ?_
  refine law_loop hE hL hset 512 0 _ _ rfl ⟨fun _ => 0, fun _ => (0, 0, 0), 0, fun _ => pN0, [], pY0, gh G + vgN E + 6, 64, 2 ^ eN E - 1, q1.keep2 (fun q y1 y2 => ?_) (fun i hi => by omega), w1, JS.zero, rfl, Nat.le_refl _, fun n hn => ?_, fun z => ?_, by omega, by omega, fun i hi => by omega⟩
  · rw [w2 q y2, mup_ne _ _ (by omega)]
  · rw [Nat.testBit_two_pow_sub_one, decide_eq_true hn]
    rfl
  · exact absurd z (by decide)
end LAWLOOP
