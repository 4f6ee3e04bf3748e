/-! The reference: set, act. -/
section MODACT
variable {l : Launch} {G : mm_G} {M : mm_M} {sz : Nat} {E : pE} {cm : Nat → pCm} {mo aa L td gv up ep cl : Nat}
/-- without a value there is 0 -/
def tZ (t : pT) : Prop := ∀ k, t.1 k = false → t.2 k = 0
theorem tS_z {c : pCm} {t : pT} (h : tZ t) : tZ (tS c t) := by
  intro k
  unfold tS
  split
  · simp only [va_up]
    split
    · intro q; cases q
    · exact h k
  · split
    · simp only [va_up]
      split
      · intro _; rfl
      · exact h k
    · split
      · simp only [va_up]
        split
        · intro q; cases q
        · exact h k
      · split
        · rename_i q1 q2 q3 q4
          simp only [va_up]
          by_cases z : k = c.2.1
          · rw [if_pos z, if_pos z]
            intro _
            rfl
          · rw [if_neg z, if_neg z]
            split
            · exact h _
            · exact h k
        · exact h k
theorem tab_z : ∀ d, tZ (tab cm d) := by
  intro d
  induction d with
  | zero => intro k _; rfl
  | succ d ih => exact tS_z ih
/-- the two arrays hold a table -/
def MtP (M : mm_M) (mo : Nat) (t : pT) : Prop := ∃ vv hh, M (mo + 1) = some (aI 40 vv) ∧ M (mo + 2) = some (aZ 40 hh) ∧ ∀ k, k < 40 → vv k = t.2 k ∧ hh k = bI (t.1 k)
def FrT (M M' : mm_M) (mo : Nat) : Prop := ∀ q, q ≠ mo + 1 → q ≠ mo + 2 → M' q = M q
theorem c_mSet {k : Nat} {b : Bool} {v : Int32} {t : pT} (hk : k < 40) (h0 : M mo = some (moO mo aa E td gv up ep cl)) (ht : MtP M mo t) : CT l G Y_Mod_set ds_Mod_set (rm 1) [.ref mo, .int (nI k), .int (bI b), .int v] M sz (fun r M' sz' => r = none ∧ sz' = sz ∧ MtP M' mo (va_up t.1 k b, va_up t.2 k (if b then v else 0)) ∧ FrT M M' mo) := by
  obtain ⟨vv, hh, h1, h2, h3⟩ := ht
  refine CT.of (by decide) (Nat.le_of_ble_eq_true rfl) ?_
  refine rw_aload_n d_Mod_set_0 rfl (by first | exact mm_ref_r _ | exact mm_ref_n | exact mm_ref_o _) ?_
  refine rw_get d_Mod_set_1 fF_Mod_13 h0 rfl ?_
  refine rw_iload_n d_Mod_set_4 rfl ?_
  refine rw_iload_n d_Mod_set_5 rfl ?_
  refine rw_zast d_Mod_set_6 h2 (vp_in_nI hk (by omega)) (narrow_bI b) ?_
  rw [nI_c (by omega)]
  refine rw_aload_n d_Mod_set_7 rfl (by first | exact mm_ref_r _ | exact mm_ref_n | exact mm_ref_o _) ?_
  refine rw_get d_Mod_set_8 fF_Mod_7 (mup_get (by omega) h0) rfl ?_
  refine rw_iload_n d_Mod_set_11 rfl ?_
  refine rw_iload_n d_Mod_set_12 rfl ?_
  have fin : ∀ x : Int32, x = (if b then v else 0) → MtP (mup (mup M (mo + 2) (aZ 40 (upd hh k (bI b)))) (mo + 1) (aI 40 (upd vv k x))) mo (va_up t.1 k b, va_up t.2 k (if b then v else 0)) := fun x hx => by
    refine ⟨_, _, mup_self _ _ _, mup_get (by omega) (mup_self _ _ _), fun j hj => ?_⟩
    by_cases z : j = k
    · subst z
      simp [upd, va_up, hx]
    · simp [upd, va_up, z, h3 j hj]
  have frm : ∀ x : Int32, FrT M (mup (mup M (mo + 2) (aZ 40 (upd hh k (bI b)))) (mo + 1) (aI 40 (upd vv k x))) mo := fun x q q1 q2 => by rw [mup_ne _ _ q1, mup_ne _ _ q2]
  cases b with
  | false =>
    refine rw_if_eq_t (tgt := 20) d_Mod_set_13 (by decide) (rfl) ?_
    refine rw_iconst (v := 0) d_Mod_set_20 (by decide) ?_
    refine rw_iast d_Mod_set_21 (mup_get (by omega) h1) (vp_in_nI hk (by omega)) ?_
    rw [nI_c (by omega)]
    exact rw_vret d_Mod_set_22 rfl ⟨rfl, rfl, fin _ rfl, frm _⟩
  | true =>
    refine rw_if_eq_f (tgt := 20) d_Mod_set_13 (by decide) (by decide) ?_
    refine rw_iload_n d_Mod_set_16 rfl ?_
    refine rw_goto (tgt := 21) d_Mod_set_17 (by decide) ?_
    refine rw_iast d_Mod_set_21 (mup_get (by omega) h1) (vp_in_nI hk (by omega)) ?_
    rw [nI_c (by omega)]
    exact rw_vret d_Mod_set_22 rfl ⟨rfl, rfl, fin _ rfl, frm _⟩
theorem MtP.to {t t' : pT} (h : MtP M mo t) (e : ∀ k, k < 40 → t'.1 k = t.1 k ∧ t'.2 k = t.2 k) : MtP M mo t' := by
  obtain ⟨vv, hh, h1, h2, h3⟩ := h
  exact ⟨vv, hh, h1, h2, fun k hk => by rw [(e k hk).1, (e k hk).2]; exact h3 k hk⟩
def MaQ (M : mm_M) (sz mo : Nat) (c : pCm) (t : pT) : Option Value → mm_M → Nat → Prop := fun r M' sz' => r = some (.long (tA c t).toInt64) ∧ sz' = sz ∧ MtP M' mo (tS c t) ∧ FrT M M' mo
set_option maxRecDepth 100000 in
theorem c_mAct {w : Nat} {c : pCm} {t : pT} {kk ke wi : Nat → Int32} (hw : w < 8) (h0 : M mo = some (moO mo aa E td gv up ep cl)) (ht : MtP M mo t) (hz : tZ t) (h3 : M (mo + 3) = some (aI 8 kk)) (h4 : M (mo + 4) = some (aI 8 ke)) (h5 : M (mo + 5) = some (aI 8 wi)) (e1 : kk w = nI c.1) (e2 : ke w = nI c.2.1) (e3 : wi w = c.2.2) (hc : cOk c) : CT l G Y_Mod_act ds_Mod_act (rm 2) [.ref mo, .int (nI w)] M sz (MaQ M sz mo c t) := by
  obtain ⟨kd, kx, x⟩ := c
  obtain ⟨c1, c2, c3⟩ := hc
  simp only at c1 c2 c3 e1 e2 e3
  obtain ⟨vv, hh, h1, h2, t1⟩ := id ht
  refine CT.of (by decide) (Nat.le_of_ble_eq_true rfl) ?_
  refine rw_aload_n d_Mod_act_0 rfl (by first | exact mm_ref_r _ | exact mm_ref_n | exact mm_ref_o _) ?_
  refine rw_get d_Mod_act_1 fF_Mod_20 h0 rfl ?_
  refine rw_iload_n d_Mod_act_4 rfl ?_
  refine rw_iald d_Mod_act_5 h4 (vp_in_nI hw (by omega)) ?_
  rw [nI_c (by omega), e2]
  refine rw_istore_n d_Mod_act_6 (by decide) rfl ?_
  refine rw_aload_n d_Mod_act_7 rfl (by first | exact mm_ref_r _ | exact mm_ref_n | exact mm_ref_o _) ?_
  refine rw_get d_Mod_act_8 fF_Mod_23 h0 rfl ?_
  refine rw_iload_n d_Mod_act_11 rfl ?_
  refine rw_iald d_Mod_act_12 h5 (vp_in_nI hw (by omega)) ?_
  rw [nI_c (by omega), e3]
  refine rw_istore_n d_Mod_act_13 (by decide) rfl ?_
  refine rw_aload_n d_Mod_act_14 rfl (by first | exact mm_ref_r _ | exact mm_ref_n | exact mm_ref_o _) ?_
  refine rw_get d_Mod_act_15 fF_Mod_13 h0 rfl ?_
  refine rw_iload_n d_Mod_act_18 rfl ?_
  refine rw_zald d_Mod_act_19 h2 (vp_in_nI c2 (by omega)) ?_
  rw [nI_c (by omega), (t1 kx c2).2]
  have rest : RW l G Y_Mod_act (rm 2) (mm_Z G (rm 2) (MaQ M sz mo (kd, kx, x) t)) 0 0 30 [(0, .ref mo), (1, .int (nI w)), (2, .int (nI kx)), (3, .int x), (4, .long (bI (t.1 kx)).toInt64)] [] M sz := by
    refine rw_aload_n d_Mod_act_30 rfl (by first | exact mm_ref_r _ | exact mm_ref_n | exact mm_ref_o _) ?_
    refine rw_get d_Mod_act_31 fF_Mod_17 h0 rfl ?_
    refine rw_iload_n d_Mod_act_34 rfl ?_
    refine rw_iald d_Mod_act_35 h3 (vp_in_nI hw (by omega)) ?_
    rw [nI_c (by omega), e1]
    have fin : ∀ r : Int32, r = tA (kd, kx, x) t → ∀ M' : mm_M, MtP M' mo (tS (kd, kx, x) t) → FrT M M' mo → MaQ M sz mo (kd, kx, x) t (some (.long r.toInt64)) M' sz := fun r hr M' a b => ⟨by rw [hr], rfl, a, b⟩
    rcases (show kd = 0 ∨ kd = 1 ∨ kd = 2 ∨ kd = 3 ∨ kd = 4 by omega) with rfl | rfl | rfl | rfl | rfl
    · refine rw_tabIn (off := 32) (tgt := 68) d_Mod_act_36 (by decide) (by decide) (by decide) (by decide) ?_
      refine rw_aload_n d_Mod_act_68 rfl (by first | exact mm_ref_r _ | exact mm_ref_n | exact mm_ref_o _) ?_
      refine rw_iload_n d_Mod_act_69 rfl ?_
      refine rw_iconst (v := 1) d_Mod_act_70 (by decide) ?_
      refine rw_iload_n d_Mod_act_71 rfl ?_
      refine rw_callV (kc := 0) (ks := 0) (rest := []) d_Mod_act_72 (c_mSet (k := kx) (b := true) (v := x) c2 h0 ht) mW_Mod_set mL_Mod_60 mI_Mod_set mE_Mod_set ⟨by decide, by decide⟩ h0 rfl rfl rfl rfl (Nat.le_of_ble_eq_true rfl) (fun r M2 sz2 hq => ?_)
      obtain ⟨rfl, rfl, q1, q2⟩ := hq
      refine rw_stk (st' := []) rfl ?_
      refine rw_lload d_Mod_act_75 rfl ?_
      exact rw_lret d_Mod_act_77 rfl (fin _ rfl M2 q1 q2)
    · refine rw_tabIn (off := 42) (tgt := 78) d_Mod_act_36 (by decide) (by decide) (by decide) (by decide) ?_
      refine rw_aload_n d_Mod_act_78 rfl (by first | exact mm_ref_r _ | exact mm_ref_n | exact mm_ref_o _) ?_
      refine rw_iload_n d_Mod_act_79 rfl ?_
      refine rw_iconst (v := 0) d_Mod_act_80 (by decide) ?_
      refine rw_iconst (v := 0) d_Mod_act_81 (by decide) ?_
      refine rw_callV (kc := 0) (ks := 0) (rest := []) d_Mod_act_82 (c_mSet (k := kx) (b := false) (v := 0) c2 h0 ht) mW_Mod_set mL_Mod_60 mI_Mod_set mE_Mod_set ⟨by decide, by decide⟩ h0 rfl rfl rfl rfl (Nat.le_of_ble_eq_true rfl) (fun r M2 sz2 hq => ?_)
      obtain ⟨rfl, rfl, q1, q2⟩ := hq
      refine rw_stk (st' := []) rfl ?_
      refine rw_lload d_Mod_act_85 rfl ?_
      exact rw_lret d_Mod_act_87 rfl (fin _ rfl M2 q1 q2)
    · refine rw_tabIn (off := 52) (tgt := 88) d_Mod_act_36 (by decide) (by decide) (by decide) (by decide) ?_
      refine rw_aload_n d_Mod_act_88 rfl (by first | exact mm_ref_r _ | exact mm_ref_n | exact mm_ref_o _) ?_
      refine rw_get d_Mod_act_89 fF_Mod_7 h0 rfl ?_
      refine rw_iload_n d_Mod_act_92 rfl ?_
      refine rw_iald d_Mod_act_93 h1 (vp_in_nI c2 (by omega)) ?_
      refine rw_i2l d_Mod_act_94 rfl ?_
      refine rw_stk (st' := [.long (t.2 kx).toInt64]) (by rw [nI_c (by omega), (t1 kx c2).1]) ?_
      exact rw_lret d_Mod_act_95 rfl (fin (t.2 kx) rfl M ht (fun q _ _ => rfl))
    · refine rw_tabIn (off := 60) (tgt := 96) d_Mod_act_36 (by decide) (by decide) (by decide) (by decide) ?_
      refine rw_aload_n d_Mod_act_96 rfl (by first | exact mm_ref_r _ | exact mm_ref_n | exact mm_ref_o _) ?_
      refine rw_iload_n d_Mod_act_97 rfl ?_
      refine rw_iconst (v := 1) d_Mod_act_98 (by decide) ?_
      refine rw_aload_n d_Mod_act_99 rfl (by first | exact mm_ref_r _ | exact mm_ref_n | exact mm_ref_o _) ?_
      refine rw_get d_Mod_act_100 fF_Mod_7 h0 rfl ?_
      refine rw_iload_n d_Mod_act_103 rfl ?_
      refine rw_iald d_Mod_act_104 h1 (vp_in_nI c2 (by omega)) ?_
      refine rw_iload_n d_Mod_act_105 rfl ?_
      refine rw_iadd d_Mod_act_106 ?_
      rw [nI_c (by omega), (t1 kx c2).1]
      refine rw_callV (kc := 0) (ks := 0) (rest := []) d_Mod_act_107 (c_mSet (k := kx) (b := true) (v := t.2 kx + x) c2 h0 ht) mW_Mod_set mL_Mod_60 mI_Mod_set mE_Mod_set ⟨by decide, by decide⟩ h0 rfl rfl rfl rfl (Nat.le_of_ble_eq_true rfl) (fun r M2 sz2 hq => ?_)
      obtain ⟨rfl, rfl, q1, q2⟩ := hq
      refine rw_stk (st' := []) rfl ?_
      obtain ⟨v2, hh2, r1, r2, r3⟩ := id q1
      refine rw_aload_n d_Mod_act_110 rfl (by first | exact mm_ref_r _ | exact mm_ref_n | exact mm_ref_o _) ?_
      refine rw_get d_Mod_act_111 fF_Mod_7 ((q2 mo (by omega) (by omega)).trans h0) rfl ?_
      refine rw_iload_n d_Mod_act_114 rfl ?_
      refine rw_iald d_Mod_act_115 r1 (vp_in_nI c2 (by omega)) ?_
      refine rw_i2l d_Mod_act_116 rfl ?_
      refine rw_stk (st' := [.long (t.2 kx + x).toInt64]) (by rw [nI_c (by omega), (r3 kx c2).1]; simp [va_up]) ?_
      exact rw_lret d_Mod_act_117 rfl (fin (t.2 kx + x) rfl M2 q1 q2)
    · obtain ⟨j, hj, rfl⟩ := c3 rfl
      refine rw_tabOut (tgt := 118) d_Mod_act_36 (by decide) (by decide) ?_
      refine rw_iload_n d_Mod_act_118 rfl ?_
      refine rw_iload_n d_Mod_act_119 rfl ?_
      by_cases z : kx = j
      · subst z
        refine rw_icmp_ne_f (tgt := 126) d_Mod_act_120 (by decide) (rfl) ?_
        refine rw_lload d_Mod_act_123 rfl ?_
        refine rw_lret d_Mod_act_125 rfl (fin _ rfl M (ht.to (fun k hk => ?_)) (fun q _ _ => rfl))
        simp [tS]
      · have zn : nI kx ≠ nI j := fun e => z ((nI_eq (by omega) (by omega)).mp e)
        refine rw_icmp_ne_t (tgt := 126) d_Mod_act_120 (by decide) (zn) ?_
        refine rw_aload_n d_Mod_act_126 rfl (by first | exact mm_ref_r _ | exact mm_ref_n | exact mm_ref_o _) ?_
        refine rw_iload_n d_Mod_act_127 rfl ?_
        refine rw_aload_n d_Mod_act_128 rfl (by first | exact mm_ref_r _ | exact mm_ref_n | exact mm_ref_o _) ?_
        refine rw_get d_Mod_act_129 fF_Mod_13 h0 rfl ?_
        refine rw_iload_n d_Mod_act_132 rfl ?_
        refine rw_zald d_Mod_act_133 h2 (vp_in_nI c2 (by omega)) ?_
        refine rw_aload_n d_Mod_act_134 rfl (by first | exact mm_ref_r _ | exact mm_ref_n | exact mm_ref_o _) ?_
        refine rw_get d_Mod_act_135 fF_Mod_7 h0 rfl ?_
        refine rw_iload_n d_Mod_act_138 rfl ?_
        refine rw_iald d_Mod_act_139 h1 (vp_in_nI c2 (by omega)) ?_
        rw [nI_c (by omega), (t1 kx c2).1, (t1 kx c2).2]
        refine rw_callV (kc := 0) (ks := 0) (rest := []) d_Mod_act_140 (c_mSet (k := j) (b := t.1 kx) (v := t.2 kx) hj h0 ht) mW_Mod_set mL_Mod_60 mI_Mod_set mE_Mod_set ⟨by decide, by decide⟩ h0 rfl rfl rfl rfl (Nat.le_of_ble_eq_true rfl) (fun r M2 sz2 hq => ?_)
        obtain ⟨rfl, rfl, q1, q2⟩ := hq
        refine rw_stk (st' := []) rfl ?_
        refine rw_aload_n d_Mod_act_143 rfl (by first | exact mm_ref_r _ | exact mm_ref_n | exact mm_ref_o _) ?_
        refine rw_iload_n d_Mod_act_144 rfl ?_
        refine rw_iconst (v := 0) d_Mod_act_145 (by decide) ?_
        refine rw_iconst (v := 0) d_Mod_act_146 (by decide) ?_
        have h02 := (q2 mo (by omega) (by omega)).trans h0
        refine rw_callV (kc := 0) (ks := 0) (rest := []) d_Mod_act_147 (c_mSet (k := kx) (b := false) (v := 0) c2 h02 q1) mW_Mod_set mL_Mod_60 mI_Mod_set mE_Mod_set ⟨by decide, by decide⟩ h02 rfl rfl rfl rfl (Nat.le_of_ble_eq_true rfl) (fun r M3 sz3 hq => ?_)
        obtain ⟨rfl, rfl, q3, q4⟩ := hq
        refine rw_stk (st' := []) rfl ?_
        refine rw_lload d_Mod_act_150 rfl ?_
        refine rw_lret d_Mod_act_152 rfl (fin _ rfl M3 (q3.to (fun k hk => ?_)) (fun q z1 z2 => (q4 q z1 z2).trans (q2 q z1 z2)))
        have e : tS (4, kx, nI j) t = (va_up (va_up t.1 kx false) j (t.1 kx), va_up (va_up t.2 j (t.2 kx)) kx 0) := by
          unfold tS
          rw [if_neg (by simp), if_neg (by simp), if_neg (by simp), if_pos ⟨rfl, zn⟩]
          simp only [nI_c (show j < 2147483648 by omega)]
        rw [e]
        have zz : t.1 kx = false → t.2 kx = 0 := hz kx
        simp only [va_up]
        by_cases y1 : k = kx
        · subst y1
          simp [z]
        · by_cases y2 : k = j
          · subst y2
            simp [y1]
            intro q
            exact zz q
          · simp [y1, y2]
  cases hb : t.1 kx with
  | false =>
    refine rw_if_eq_t (tgt := 27) d_Mod_act_20 (by decide) (rfl) ?_
    refine rw_lconst (v := 0) d_Mod_act_27 (by decide) ?_
    refine rw_lstore d_Mod_act_28 (by decide) rfl ?_
    rw [hb] at rest
    exact rw_lv (by intro q hq; simp at hq; rcases hq with rfl | rfl | rfl | rfl | rfl <;> rfl) rest
  | true =>
    refine rw_if_eq_f (tgt := 27) d_Mod_act_20 (by decide) (by decide) ?_
    refine rw_lconst (v := 1) d_Mod_act_23 (by decide) ?_
    refine rw_goto (tgt := 28) d_Mod_act_24 (by decide) ?_
    refine rw_lstore d_Mod_act_28 (by decide) rfl ?_
    rw [hb] at rest
    exact rw_lv (by intro q hq; simp at hq; rcases hq with rfl | rfl | rfl | rfl | rfl <;> rfl) rest
end MODACT
