/-! The reference: give, crash, restart. -/
section MODGIVE
variable {l : Launch} {G : mm_G} {M : mm_M} {sz : Nat} {E : pE} {cm : Nat → pCm} {mo aa L td gv up ep cl : Nat}
/-- the reference's six cells -/
def FrM (M M' : mm_M) (mo : Nat) : Prop := ∀ q, q < mo ∨ mo + 6 ≤ q → M' q = M q
def MgQ (M : mm_M) (sz mo aa L : Nat) (E : pE) (cm : Nat → pCm) (td gv up ep : Nat) (k x w : Int32) : Option Value → mm_M → Nat → Prop := fun r M' sz' =>
  (¬ gOk k x w ∧ r = some (.int (-1)) ∧ M' = M ∧ sz' = sz) ∨
  (gOk k x w ∧ gv = td + 8 ∧ r = some (.int (-2)) ∧ M' = M ∧ sz' = sz) ∨
  (gv < td + 8 ∧ r = some (.int (nI gv)) ∧ sz' = sz ∧ ∃ kd kx, k = nI kd ∧ x = nI kx ∧ cOk (kd, kx, w) ∧ MoP M' mo aa L E (va_up cm gv (kd, kx, w)) td (gv + 1) up ep 0 ∧ FrM M M' mo)
set_option maxRecDepth 100000 in
theorem mgive_tail {kd kx : Nat} {w : Int32} (h : MoP M mo aa L E cm td gv up ep cl) (hc : cOk (kd, kx, w)) (hg : gv < 512) :
    RW l G Y_Mod_give (rm 1) (mm_Z G (rm 1) (MgQ M sz mo aa L E cm td gv up ep (nI kd) (nI kx) w)) 0 0 36 [(0, .ref mo), (1, .int (nI kd)), (2, .int (nI kx)), (3, .int w)] [] M sz := by
  obtain ⟨vv, hh, kk, ke, wi, an, h0, h1, h2, h3, h4, h5, h6, ⟨a1, a2, a3, a4, a5, a6, a7, a8, a9⟩, t1, t2, t3⟩ := id h
  have hin : vp_in (nI (gv - td)) 8 → True := fun _ => trivial
  refine rw_aload_n d_Mod_give_36 rfl (by first | exact mm_ref_r _ | exact mm_ref_n | exact mm_ref_o _) ?_
  refine rw_get d_Mod_give_37 fF_Mod_46 h0 rfl ?_
  refine rw_bipush (v := 8) d_Mod_give_40 (by decide) ?_
  by_cases c : gv = td + 8
  · subst c
    rw [show td + 8 - td = 8 by omega]
    refine rw_icmp_ne_f (tgt := 48) d_Mod_give_42 (by decide) (rfl) ?_
    refine rw_bipush (v := (-2)) d_Mod_give_45 (by decide) ?_
    exact rw_iret d_Mod_give_47 rfl (Or.inr (Or.inl ⟨⟨kd, kx, rfl, rfl, hc⟩, rfl, rfl, rfl, rfl⟩))
  · refine rw_icmp_ne_t (tgt := 48) d_Mod_give_42 (by decide) (fun z => c (by have := (nI_eq (a := gv - td) (b := 8) (by omega) (by omega)).mp z; omega)) ?_
    have hw : gv - td < 8 := by omega
    refine rw_aload_n d_Mod_give_48 rfl (by first | exact mm_ref_r _ | exact mm_ref_n | exact mm_ref_o _) ?_
    refine rw_get d_Mod_give_49 fF_Mod_17 h0 rfl ?_
    refine rw_aload_n d_Mod_give_52 rfl (by first | exact mm_ref_r _ | exact mm_ref_n | exact mm_ref_o _) ?_
    refine rw_get d_Mod_give_53 fF_Mod_46 h0 rfl ?_
    refine rw_iload_n d_Mod_give_56 rfl ?_
    refine rw_iast d_Mod_give_57 h3 (vp_in_nI hw (by omega)) ?_
    rw [nI_c (by omega)]
    refine rw_aload_n d_Mod_give_58 rfl (by first | exact mm_ref_r _ | exact mm_ref_n | exact mm_ref_o _) ?_
    refine rw_get d_Mod_give_59 fF_Mod_20 (mup_get (by omega) h0) rfl ?_
    refine rw_aload_n d_Mod_give_62 rfl (by first | exact mm_ref_r _ | exact mm_ref_n | exact mm_ref_o _) ?_
    refine rw_get d_Mod_give_63 fF_Mod_46 (mup_get (by omega) h0) rfl ?_
    refine rw_iload_n d_Mod_give_66 rfl ?_
    refine rw_iast d_Mod_give_67 (mup_get (by omega) h4) (vp_in_nI hw (by omega)) ?_
    rw [nI_c (by omega)]
    refine rw_aload_n d_Mod_give_68 rfl (by first | exact mm_ref_r _ | exact mm_ref_n | exact mm_ref_o _) ?_
    refine rw_get d_Mod_give_69 fF_Mod_23 (mup_get (by omega) (mup_get (by omega) h0)) rfl ?_
    refine rw_aload_n d_Mod_give_72 rfl (by first | exact mm_ref_r _ | exact mm_ref_n | exact mm_ref_o _) ?_
    refine rw_get d_Mod_give_73 fF_Mod_46 (mup_get (by omega) (mup_get (by omega) h0)) rfl ?_
    refine rw_iload_n d_Mod_give_76 rfl ?_
    refine rw_iast d_Mod_give_77 (mup_get (by omega) (mup_get (by omega) h5)) (vp_in_nI hw (by omega)) ?_
    rw [nI_c (by omega)]
    refine rw_aload_n d_Mod_give_78 rfl (by first | exact mm_ref_r _ | exact mm_ref_n | exact mm_ref_o _) ?_
    refine rw_dup d_Mod_give_79 rfl ?_
    refine rw_get d_Mod_give_80 fF_Mod_46 (mup_get (by omega) (mup_get (by omega) (mup_get (by omega) h0))) rfl ?_
    refine rw_iconst (v := 1) d_Mod_give_83 (by decide) ?_
    refine rw_iadd d_Mod_give_84 ?_
    rw [nI_1]
    refine rw_put d_Mod_give_85 (fP_Mod_46 _) (mup_get (by omega) (mup_get (by omega) (mup_get (by omega) h0))) (Nat.le_of_ble_eq_true rfl) (by first | rfl | assumption | decide) (by first | rfl | assumption | decide) ?_
    refine rw_aload_n d_Mod_give_88 rfl (by first | exact mm_ref_r _ | exact mm_ref_n | exact mm_ref_o _) ?_
    refine rw_dup d_Mod_give_89 rfl ?_
    refine rw_get d_Mod_give_90 fF_Mod_49 (mup_self _ _ _) rfl ?_
    refine rw_iconst (v := 1) d_Mod_give_93 (by decide) ?_
    refine rw_iadd d_Mod_give_94 ?_
    rw [nI_1]
    refine rw_put d_Mod_give_95 (fP_Mod_49 _) (mup_self _ _ _) (Nat.le_of_ble_eq_true rfl) (by first | rfl | assumption | decide) (by first | rfl | assumption | decide) ?_
    refine rw_aload_n d_Mod_give_98 rfl (by first | exact mm_ref_r _ | exact mm_ref_n | exact mm_ref_o _) ?_
    refine rw_iconst (v := 0) d_Mod_give_99 (by decide) ?_
    refine rw_put d_Mod_give_100 (fP_Mod_52 _) (mup_self _ _ _) (Nat.le_of_ble_eq_true rfl) (by first | rfl | assumption | decide) (by first | rfl | assumption | decide) ?_
    refine rw_aload_n d_Mod_give_103 rfl (by first | exact mm_ref_r _ | exact mm_ref_n | exact mm_ref_o _) ?_
    refine rw_get d_Mod_give_104 fF_Mod_49 (mup_self _ _ _) rfl ?_
    refine rw_iconst (v := 1) d_Mod_give_107 (by decide) ?_
    refine rw_isub d_Mod_give_108 ?_
    refine rw_stk (st' := [.int (nI gv)]) (by rw [← nI_1, show nI gv + 1 - 1 = nI gv by simp]) ?_
    have hself : ∀ (f : Nat → Int32) (x : Int32), upd f (gv - td) x (gv - td) = x := fun f x => by simp [upd]
    have hne : ∀ (f : Nat → Int32) (x : Int32) (j : Nat), j ≠ gv - td → upd f (gv - td) x j = f j := fun f x j hj => by simp [upd, hj]
    refine rw_iret d_Mod_give_109 rfl (Or.inr (Or.inr ⟨by omega, rfl, rfl, kd, kx, rfl, rfl, hc, ⟨vv, hh, upd kk (gv - td) (nI kd), upd ke (gv - td) (nI kx), upd wi (gv - td) w, an, ?_, ?_, ?_, ?_, ?_, ?_, ?_, ⟨by omega, by omega, by omega, a4, a5, a6, a7, a8, by omega⟩, fun k hk => ?_, fun j hj => ?_, fun i hi => ?_⟩, fun q hq => ?_⟩))
    · rw [mup_self]
      simp only [moO]
      rw [show gv + 1 - td = gv - td + 1 by omega]
      rfl
    · rw [mup_ne _ _ (by omega), mup_ne _ _ (by omega), mup_ne _ _ (by omega), mup_ne _ _ (by omega), mup_ne _ _ (by omega), mup_ne _ _ (by omega)]
      exact h1
    · rw [mup_ne _ _ (by omega), mup_ne _ _ (by omega), mup_ne _ _ (by omega), mup_ne _ _ (by omega), mup_ne _ _ (by omega), mup_ne _ _ (by omega)]
      exact h2
    · rw [mup_ne _ _ (by omega), mup_ne _ _ (by omega), mup_ne _ _ (by omega), mup_ne _ _ (by omega), mup_ne _ _ (by omega), mup_self]
    · rw [mup_ne _ _ (by omega), mup_ne _ _ (by omega), mup_ne _ _ (by omega), mup_ne _ _ (by omega), mup_self]
    · rw [mup_ne _ _ (by omega), mup_ne _ _ (by omega), mup_ne _ _ (by omega), mup_self]
    · rw [mup_ne _ _ (by omega), mup_ne _ _ (by omega), mup_ne _ _ (by omega), mup_ne _ _ (by omega), mup_ne _ _ (by omega), mup_ne _ _ (by omega)]
      exact h6
    · rw [tab_up td (by omega)]
      exact t1 k hk
    · by_cases z : j = gv - td
      · subst z
        rw [hself, hself, hself, show td + (gv - td) = gv by omega, va_up_self]
        exact ⟨rfl, rfl, rfl⟩
      · rw [hne _ _ _ z, hne _ _ _ z, hne _ _ _ z, va_up_ne _ _ (by omega)]
        exact t2 j (by omega)
    · rw [tAns_up (by omega)]
      exact t3 i hi
    · rw [mup_ne _ _ (by omega), mup_ne _ _ (by omega), mup_ne _ _ (by omega), mup_ne _ _ (by omega), mup_ne _ _ (by omega), mup_ne _ _ (by omega)]
set_option maxRecDepth 100000 in
theorem c_mGive {k x w : Int32} (h : MoP M mo aa L E cm td gv up ep cl) (hg : gv < 512) : CT l G Y_Mod_give ds_Mod_give (rm 1) [.ref mo, .int k, .int x, .int w] M sz (MgQ M sz mo aa L E cm td gv up ep k x w) := by
  have no : ¬ gOk k x w → RW l G Y_Mod_give (rm 1) (mm_Z G (rm 1) (MgQ M sz mo aa L E cm td gv up ep k x w)) 0 0 34 [(0, .ref mo), (1, .int k), (2, .int x), (3, .int w)] [] M sz := fun z => by
    refine rw_iconst (v := (-1)) d_Mod_give_34 (by decide) ?_
    exact rw_iret d_Mod_give_35 rfl (Or.inl ⟨z, rfl, rfl, rfl⟩)
  refine CT.of (by decide) (Nat.le_of_ble_eq_true rfl) ?_
  refine rw_iload_n d_Mod_give_0 rfl ?_
  refine rw_if_lt (tgt := 34) d_Mod_give_1 (by decide) (fun q => ?_) (fun q => ?_)
  · refine no (fun ⟨kd, kx, e1, e2, e3⟩ => ?_)
    have := e3.1
    simp only at this
    rw [e1] at q
    exact absurd q (nI_pos (by omega))
  · obtain ⟨kd, hkd, rfl⟩ := nI_of q
    refine rw_iload_n d_Mod_give_4 rfl ?_
    refine rw_iconst (v := 4) d_Mod_give_5 (by decide) ?_
    by_cases c4 : kd ≤ 4
    · refine rw_icmp_gt_f (tgt := 34) d_Mod_give_6 (by decide) (nI_nlt (b := kd) (a := 4) c4 (by omega)) ?_
      refine rw_iload_n d_Mod_give_9 rfl ?_
      refine rw_if_lt (tgt := 34) d_Mod_give_10 (by decide) (fun q2 => ?_) (fun q2 => ?_)
      · refine no (fun ⟨kd2, kx, e1, e2, e3⟩ => ?_)
        have := e3.2.1
        simp only at this
        rw [e2] at q2
        exact absurd q2 (nI_pos (by omega))
      · obtain ⟨kx, hkx, rfl⟩ := nI_of q2
        refine rw_iload_n d_Mod_give_13 rfl ?_
        refine rw_bipush (v := 39) d_Mod_give_14 (by decide) ?_
        by_cases cx : kx ≤ 39
        · refine rw_icmp_gt_f (tgt := 34) d_Mod_give_16 (by decide) (nI_nlt (b := kx) (a := 39) cx (by omega)) ?_
          refine rw_iload_n d_Mod_give_19 rfl ?_
          refine rw_iconst (v := 4) d_Mod_give_20 (by decide) ?_
          by_cases c5 : kd = 4
          · subst c5
            refine rw_icmp_ne_f (tgt := 36) d_Mod_give_21 (by decide) (rfl) ?_
            refine rw_iload_n d_Mod_give_24 rfl ?_
            refine rw_if_lt (tgt := 34) d_Mod_give_25 (by decide) (fun q3 => ?_) (fun q3 => ?_)
            · refine no (fun ⟨kd2, kx2, e1, e2, e3⟩ => ?_)
              have h4 := e3.1
              simp only at h4
              rw [nI_eq (by omega) (by omega)] at e1
              obtain ⟨j, hj, ej⟩ := e3.2.2 (by simp only; omega)
              simp only at ej
              rw [ej] at q3
              exact absurd q3 (nI_pos (by omega))
            · obtain ⟨j, hj, rfl⟩ := nI_of q3
              refine rw_iload_n d_Mod_give_28 rfl ?_
              refine rw_bipush (v := 39) d_Mod_give_29 (by decide) ?_
              by_cases cj : j ≤ 39
              · refine rw_icmp_le_t (tgt := 36) d_Mod_give_31 (by decide) (nI_le (a := j) (b := 39) cj (by omega)) ?_
                exact mgive_tail h ⟨by simp only; omega, by simp only; omega, fun _ => ⟨j, by omega, rfl⟩⟩ hg
              · refine rw_icmp_le_f (tgt := 36) d_Mod_give_31 (by decide) (fun z => cj ((nI_leI (by omega) (by omega)).mp z)) ?_
                refine no (fun ⟨kd2, kx2, e1, e2, e3⟩ => ?_)
                have h4 := e3.1
                simp only at h4
                rw [nI_eq (by omega) (by omega)] at e1
                obtain ⟨j2, hj2, ej⟩ := e3.2.2 (by simp only; omega)
                simp only at ej
                rw [nI_eq (by omega) (by omega)] at ej
                omega
          · refine rw_icmp_ne_t (tgt := 36) d_Mod_give_21 (by decide) (fun z => c5 ((nI_eq (a := kd) (b := 4) (by omega) (by omega)).mp z)) ?_
            exact mgive_tail h ⟨c4, by simp only; omega, fun z => absurd z c5⟩ hg
        · refine rw_icmp_gt_t (tgt := 34) d_Mod_give_16 (by decide) (nI_lt (a := 39) (b := kx) (by omega) hkx) ?_
          refine no (fun ⟨kd2, kx2, e1, e2, e3⟩ => ?_)
          have := e3.2.1
          simp only at this
          rw [nI_eq (by omega) (by omega)] at e2
          omega
    · refine rw_icmp_gt_t (tgt := 34) d_Mod_give_6 (by decide) (nI_lt (a := 4) (b := kd) (by omega) hkd) ?_
      refine no (fun ⟨kd2, kx, e1, e2, e3⟩ => ?_)
      have := e3.1
      simp only at this
      rw [nI_eq (by omega) (by omega)] at e1
      omega
/-- bits of up -/
theorem up_bit : ∀ u, u < 64 → ∀ n, n < 7 → nI u >>> (nI n &&& 31) &&& 1 = bI (u.testBit n) := by decide +kernel
theorem up_xor : ∀ u, u < 64 → ∀ n, n < 6 → nI u ^^^ (1 : Int32) <<< (nI n &&& 31) = nI (u ^^^ 2 ^ n) ∧ u ^^^ 2 ^ n < 64 := by decide +kernel
/-- turned, or refused -/
def MuQ (M : mm_M) (sz mo aa L : Nat) (E : pE) (cm : Nat → pCm) (td gv up ep : Nat) (k : Int32) (b : Bool) : Option Value → mm_M → Nat → Prop := fun r M' sz' => sz' = sz ∧ ((∃ j, j < eN E ∧ k = nI j ∧ up.testBit j = b ∧ r = some (.int 1) ∧ MoP M' mo aa L E cm td gv (up ^^^ 2 ^ j) ep 0 ∧ Fr1 M M' mo) ∨ ((∀ j, j < eN E → k = nI j → up.testBit j ≠ b) ∧ r = some (.int 0) ∧ M' = M))
set_option maxRecDepth 100000 in
theorem c_mTurn {k : Int32} {b : Bool} (hN : eN E < 7) (h : MoP M mo aa L E cm td gv up ep cl) : CT l G Y_Mod_turn ds_Mod_turn (rm 1) [.ref mo, .int k, .int (bI b)] M sz (MuQ M sz mo aa L E cm td gv up ep k b) := by
  obtain ⟨vv, hh, kk, ke, wi, an, h0, h1, h2, h3, h4, h5, h6, ⟨a1, a2, a3, a4, a5, a6, a7, a8, a9⟩, t1, t2, t3⟩ := id h
  have no : (∀ j, j < eN E → k = nI j → up.testBit j ≠ b) → RW l G Y_Mod_turn (rm 1) (mm_Z G (rm 1) (MuQ M sz mo aa L E cm td gv up ep k b)) 0 0 32 [(0, .ref mo), (1, .int k), (2, .int (bI b))] [] M sz := fun z => by
    refine rw_iconst (v := 0) d_Mod_turn_32 (by decide) ?_
    exact rw_zret d_Mod_turn_33 rfl rfl ⟨rfl, Or.inr ⟨z, rfl, rfl⟩⟩
  refine CT.of (by decide) (Nat.le_of_ble_eq_true rfl) ?_
  refine rw_iload_n d_Mod_turn_0 rfl ?_
  refine rw_if_lt (tgt := 32) d_Mod_turn_1 (by decide) (fun q => ?_) (fun q => ?_)
  · refine no (fun j hj e => ?_)
    rw [e] at q
    exact absurd q (nI_pos (by omega))
  · obtain ⟨n, hn, rfl⟩ := nI_of q
    refine rw_iload_n d_Mod_turn_4 rfl ?_
    refine rw_aload_n d_Mod_turn_5 rfl (by first | exact mm_ref_r _ | exact mm_ref_n | exact mm_ref_o _) ?_
    refine rw_get d_Mod_turn_6 fF_Mod_34 h0 rfl ?_
    by_cases c : n < eN E
    · refine rw_icmp_ge_f (tgt := 32) d_Mod_turn_9 (by decide) (nI_ge (a := n) (b := eN E) c (by omega)) ?_
      refine rw_aload_n d_Mod_turn_12 rfl (by first | exact mm_ref_r _ | exact mm_ref_n | exact mm_ref_o _) ?_
      refine rw_get d_Mod_turn_13 fF_Mod_40 h0 rfl ?_
      refine rw_iload_n d_Mod_turn_16 rfl ?_
      refine rw_ishr d_Mod_turn_17 ?_
      refine rw_iconst (v := 1) d_Mod_turn_18 (by decide) ?_
      refine rw_iand d_Mod_turn_19 ?_
      rw [up_bit up a7 n (by omega)]
      have fin : ∀ c0 : Bool, up.testBit n = c0 → c0 = b → RW l G Y_Mod_turn (rm 1) (mm_Z G (rm 1) (MuQ M sz mo aa L E cm td gv up ep (nI n) b)) 0 0 34 [(0, .ref mo), (1, .int (nI n)), (2, .int (bI b))] [] M sz := fun c0 e1 e2 => by
        have ux := up_xor up a7 n (by omega)
        refine rw_aload_n d_Mod_turn_34 rfl (by first | exact mm_ref_r _ | exact mm_ref_n | exact mm_ref_o _) ?_
        refine rw_dup d_Mod_turn_35 rfl ?_
        refine rw_get d_Mod_turn_36 fF_Mod_40 h0 rfl ?_
        refine rw_iconst (v := 1) d_Mod_turn_39 (by decide) ?_
        refine rw_iload_n d_Mod_turn_40 rfl ?_
        refine rw_ishl d_Mod_turn_41 ?_
        refine rw_ixor d_Mod_turn_42 ?_
        rw [ux.1]
        refine rw_put d_Mod_turn_43 (fP_Mod_40 _) h0 (Nat.le_of_ble_eq_true rfl) (by first | rfl | assumption | decide) (by first | rfl | assumption | decide) ?_
        refine rw_aload_n d_Mod_turn_46 rfl (by first | exact mm_ref_r _ | exact mm_ref_n | exact mm_ref_o _) ?_
        refine rw_iconst (v := 0) d_Mod_turn_47 (by decide) ?_
        refine rw_put d_Mod_turn_48 (fP_Mod_52 _) (mup_self _ _ _) (Nat.le_of_ble_eq_true rfl) (by first | rfl | assumption | decide) (by first | rfl | assumption | decide) ?_
        refine rw_iconst (v := 1) d_Mod_turn_51 (by decide) ?_
        refine rw_zret d_Mod_turn_52 rfl rfl ⟨rfl, Or.inl ⟨n, c, rfl, e1.trans e2, rfl, h.obj (mup_self _ _ _) (fun q hq => ?_) ux.2 a8 (by omega), fun q hq => ?_⟩⟩
        · rw [mup_ne _ _ hq, mup_ne _ _ hq]
        · rw [mup_ne _ _ hq, mup_ne _ _ hq]
      have nof : ∀ c0 : Bool, up.testBit n = c0 → c0 ≠ b → ∀ j, j < eN E → nI n = nI j → up.testBit j ≠ b := fun c0 e1 e2 j hj e => by
        rw [nI_eq (by omega) (by omega)] at e
        subst e
        rw [e1]
        exact e2
      refine rw_iload_n d_Mod_turn_20 rfl ?_
      cases b with
      | false =>
        refine rw_if_eq_t (tgt := 28) d_Mod_turn_21 (by decide) (rfl) ?_
        refine rw_iconst (v := 0) d_Mod_turn_28 (by decide) ?_
        cases hb : up.testBit n with
        | false =>
          refine rw_icmp_eq_t (tgt := 34) d_Mod_turn_29 (by decide) (rfl) ?_
          exact fin false hb rfl
        | true =>
          refine rw_icmp_eq_f (tgt := 34) d_Mod_turn_29 (by decide) (by decide) ?_
          exact no (nof true hb (by decide))
      | true =>
        refine rw_if_eq_f (tgt := 28) d_Mod_turn_21 (by decide) (by decide) ?_
        refine rw_iconst (v := 1) d_Mod_turn_24 (by decide) ?_
        refine rw_goto (tgt := 29) d_Mod_turn_25 (by decide) ?_
        cases hb : up.testBit n with
        | false =>
          refine rw_icmp_eq_f (tgt := 34) d_Mod_turn_29 (by decide) (by decide) ?_
          exact no (nof false hb (by decide))
        | true =>
          refine rw_icmp_eq_t (tgt := 34) d_Mod_turn_29 (by decide) (rfl) ?_
          exact fin true hb rfl
    · refine rw_icmp_ge_t (tgt := 32) d_Mod_turn_9 (by decide) (nI_le (a := eN E) (b := n) (by omega) (by omega)) ?_
      refine no (fun j hj e => ?_)
      rw [nI_eq (by omega) (by omega)] at e
      omega
theorem c_mCrash {k z : Int32} (hN : eN E < 7) (h : MoP M mo aa L E cm td gv up ep cl) : CT l G Y_Mod_crash ds_Mod_crash (rm 2) [.ref mo, .int k, .int z] M sz (MuQ M sz mo aa L E cm td gv up ep k true) := by
  obtain ⟨vv, hh, kk, ke, wi, an, h0, -⟩ := id h
  refine CT.of (by decide) (Nat.le_of_ble_eq_true rfl) ?_
  refine rw_aload_n d_Mod_crash_0 rfl (by first | exact mm_ref_r _ | exact mm_ref_n | exact mm_ref_o _) ?_
  refine rw_iload_n d_Mod_crash_1 rfl ?_
  refine rw_iconst (v := 1) d_Mod_crash_2 (by decide) ?_
  refine rw_callV (kc := 0) (ks := 0) (rest := []) d_Mod_crash_3 (c_mTurn (k := k) (b := true) hN h) mW_Mod_turn mL_Mod_56 mI_Mod_turn mE_Mod_turn ⟨by decide, by decide⟩ h0 rfl rfl rfl rfl (Nat.le_of_ble_eq_true rfl) (fun r M2 sz2 hq => ?_)
  obtain ⟨rfl, ⟨j, hj, rfl, hb, rfl, q1, q2⟩ | ⟨q1, rfl, rfl⟩⟩ := hq
  · exact rw_zret d_Mod_crash_6 rfl rfl ⟨rfl, Or.inl ⟨j, hj, rfl, hb, rfl, q1, q2⟩⟩
  · exact rw_zret d_Mod_crash_6 rfl rfl ⟨rfl, Or.inr ⟨q1, rfl, rfl⟩⟩
theorem c_mRestart {k : Int32} (hN : eN E < 7) (h : MoP M mo aa L E cm td gv up ep cl) : CT l G Y_Mod_restart ds_Mod_restart (rm 2) [.ref mo, .int k] M sz (MuQ M sz mo aa L E cm td gv up ep k false) := by
  obtain ⟨vv, hh, kk, ke, wi, an, h0, -⟩ := id h
  refine CT.of (by decide) (Nat.le_of_ble_eq_true rfl) ?_
  refine rw_aload_n d_Mod_restart_0 rfl (by first | exact mm_ref_r _ | exact mm_ref_n | exact mm_ref_o _) ?_
  refine rw_iload_n d_Mod_restart_1 rfl ?_
  refine rw_iconst (v := 0) d_Mod_restart_2 (by decide) ?_
  refine rw_callV (kc := 0) (ks := 0) (rest := []) d_Mod_restart_3 (c_mTurn (k := k) (b := false) hN h) mW_Mod_turn mL_Mod_56 mI_Mod_turn mE_Mod_turn ⟨by decide, by decide⟩ h0 rfl rfl rfl rfl (Nat.le_of_ble_eq_true rfl) (fun r M2 sz2 hq => ?_)
  obtain ⟨rfl, ⟨j, hj, rfl, hb, rfl, q1, q2⟩ | ⟨q1, rfl, rfl⟩⟩ := hq
  · exact rw_zret d_Mod_restart_6 rfl rfl ⟨rfl, Or.inl ⟨j, hj, rfl, hb, rfl, q1, q2⟩⟩
  · exact rw_zret d_Mod_restart_6 rfl rfl ⟨rfl, Or.inr ⟨q1, rfl, rfl⟩⟩
end MODGIVE
