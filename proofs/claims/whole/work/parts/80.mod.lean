/-! The reference: its picture; its constructor and its small methods. -/
section MOD
variable {l : Launch} {G : mm_G} {M : mm_M} {sz : Nat} {E : pE} {cm : Nat → pCm} {mo aa L td gv up ep cl : Nat}
abbrev aJ (n : Nat) (f : Nat → Int64) : va_E := .inl (2, n, .inr (.inl f))
abbrev moO (mo aa : Nat) (E : pE) (td gv up ep cl : Nat) : va_E := .inr (11, [.int (nI (eN E)), .int (nI (eC E)), .ref (mo + 1), .ref (mo + 2), .ref (mo + 3), .ref (mo + 4), .ref (mo + 5), .int (nI (gv - td)), .ref aa, .int (nI gv), .int (nI up), .int (nI (E.2.2 ep)), .int (nI ep), .int (nI cl)])
/-- the reference at mo: its table that of the first td commands, the others waiting -/
def MoP (M : mm_M) (mo aa L : Nat) (E : pE) (cm : Nat → pCm) (td gv up ep cl : Nat) : Prop := ∃ vv hh kk ke wi an, M mo = some (moO mo aa E td gv up ep cl) ∧ M (mo + 1) = some (aI 40 vv) ∧ M (mo + 2) = some (aZ 40 hh) ∧ M (mo + 3) = some (aI 8 kk) ∧ M (mo + 4) = some (aI 8 ke) ∧ M (mo + 5) = some (aI 8 wi) ∧ M aa = some (aJ L an) ∧
  (td ≤ gv ∧ gv ≤ td + 8 ∧ gv ≤ 512 ∧ td ≤ L ∧ mo + 6 ≤ aa ∧ L ≤ 1024 ∧ up < 64 ∧ ep < 1000000 ∧ cl ≤ 1) ∧
  (∀ k, k < 40 → vv k = (tab cm td).2 k ∧ hh k = bI ((tab cm td).1 k)) ∧
  (∀ w, w < gv - td → kk w = nI (cm (td + w)).1 ∧ ke w = nI (cm (td + w)).2.1 ∧ wi w = (cm (td + w)).2.2) ∧ ∀ i, i < td → an i = (tAns cm i).toInt64
theorem MoP.kept {M' : mm_M} (h : MoP M mo aa L E cm td gv up ep cl) (hq : ∀ q, mo ≤ q → q < mo + 6 → M' q = M q) (ha : M' aa = M aa) : MoP M' mo aa L E cm td gv up ep cl := by
  obtain ⟨vv, hh, kk, ke, wi, an, h0, h1, h2, h3, h4, h5, h6, hr⟩ := h
  exact ⟨vv, hh, kk, ke, wi, an, (hq _ (by omega) (by omega)).trans h0, (hq _ (by omega) (by omega)).trans h1, (hq _ (by omega) (by omega)).trans h2, (hq _ (by omega) (by omega)).trans h3, (hq _ (by omega) (by omega)).trans h4, (hq _ (by omega) (by omega)).trans h5, ha.trans h6, hr⟩
/-- the object's cell alone changed -/
theorem MoP.obj {M' : mm_M} {up' ep' cl' : Nat} (h : MoP M mo aa L E cm td gv up ep cl) (h0 : M' mo = some (moO mo aa E td gv up' ep' cl')) (hq : ∀ q, q ≠ mo → M' q = M q) (b1 : up' < 64) (b2 : ep' < 1000000) (b3 : cl' ≤ 1) : MoP M' mo aa L E cm td gv up' ep' cl' := by
  obtain ⟨vv, hh, kk, ke, wi, an, -, h1, h2, h3, h4, h5, h6, ⟨a1, a2, a3, a4, a5, a6, -, -, -⟩, hr⟩ := h
  exact ⟨vv, hh, kk, ke, wi, an, h0, (hq _ (by omega)).trans h1, (hq _ (by omega)).trans h2, (hq _ (by omega)).trans h3, (hq _ (by omega)).trans h4, (hq _ (by omega)).trans h5, (hq _ (by omega)).trans h6, ⟨a1, a2, a3, a4, a5, a6, b1, b2, b3⟩, hr⟩
/-- one cell changed -/
def Fr1 (M M' : mm_M) (a : Nat) : Prop := ∀ q, q ≠ a → M' q = M q
def MdQ (M : mm_M) (sz mo aa L : Nat) (E : pE) (cm : Nat → pCm) (td gv up ep : Nat) (v : Option Value) : Option Value → mm_M → Nat → Prop := fun r M' sz' => r = v ∧ sz' = sz ∧ MoP M' mo aa L E cm td gv up ep 0 ∧ Fr1 M M' mo
theorem MoP.stir (h : MoP M mo aa L E cm td gv up ep cl) {e : va_E} (he : e = moO mo aa E td gv up ep 0) : MoP (mup M mo e) mo aa L E cm td gv up ep 0 := by
  subst he
  obtain ⟨_, _, _, _, _, _, _, _, _, _, _, _, _, ⟨_, _, _, _, _, _, b1, b2, _⟩, _⟩ := id h
  exact h.obj (mup_self _ _ _) (fun q hq => mup_ne _ _ hq) b1 b2 (by omega)
theorem c_mDeliver {k : Int32} (h : MoP M mo aa L E cm td gv up ep cl) : CT l G Y_Mod_deliver ds_Mod_deliver (rm 1) [.ref mo, .int k] M sz (MdQ M sz mo aa L E cm td gv up ep none) := by
  obtain ⟨vv, hh, kk, ke, wi, an, h0, -⟩ := id h
  refine CT.of (by decide) (Nat.le_of_ble_eq_true rfl) ?_
  refine rw_aload_n d_Mod_deliver_0 rfl (by first | exact mm_ref_r _ | exact mm_ref_n | exact mm_ref_o _) ?_
  refine rw_iconst (v := 0) d_Mod_deliver_1 (by decide) ?_
  refine rw_put d_Mod_deliver_2 (fP_Mod_52 _) h0 (Nat.le_of_ble_eq_true rfl) (by first | rfl | assumption | decide) (by first | rfl | assumption | decide) ?_
  exact rw_vret d_Mod_deliver_5 rfl ⟨rfl, rfl, h.stir rfl, fun q hq => mup_ne _ _ hq⟩
theorem c_mLose {k : Int32} (h : MoP M mo aa L E cm td gv up ep cl) : CT l G Y_Mod_lose ds_Mod_lose (rm 1) [.ref mo, .int k] M sz (MdQ M sz mo aa L E cm td gv up ep none) := by
  obtain ⟨vv, hh, kk, ke, wi, an, h0, -⟩ := id h
  refine CT.of (by decide) (Nat.le_of_ble_eq_true rfl) ?_
  refine rw_aload_n d_Mod_lose_0 rfl (by first | exact mm_ref_r _ | exact mm_ref_n | exact mm_ref_o _) ?_
  refine rw_iconst (v := 0) d_Mod_lose_1 (by decide) ?_
  refine rw_put d_Mod_lose_2 (fP_Mod_52 _) h0 (Nat.le_of_ble_eq_true rfl) (by first | rfl | assumption | decide) (by first | rfl | assumption | decide) ?_
  exact rw_vret d_Mod_lose_5 rfl ⟨rfl, rfl, h.stir rfl, fun q hq => mup_ne _ _ hq⟩
theorem c_mTwice {k : Int32} (h : MoP M mo aa L E cm td gv up ep cl) : CT l G Y_Mod_twice ds_Mod_twice (rm 1) [.ref mo, .int k] M sz (MdQ M sz mo aa L E cm td gv up ep none) := by
  obtain ⟨vv, hh, kk, ke, wi, an, h0, -⟩ := id h
  refine CT.of (by decide) (Nat.le_of_ble_eq_true rfl) ?_
  refine rw_aload_n d_Mod_twice_0 rfl (by first | exact mm_ref_r _ | exact mm_ref_n | exact mm_ref_o _) ?_
  refine rw_iconst (v := 0) d_Mod_twice_1 (by decide) ?_
  refine rw_put d_Mod_twice_2 (fP_Mod_52 _) h0 (Nat.le_of_ble_eq_true rfl) (by first | rfl | assumption | decide) (by first | rfl | assumption | decide) ?_
  exact rw_vret d_Mod_twice_5 rfl ⟨rfl, rfl, h.stir rfl, fun q hq => mup_ne _ _ hq⟩
/-- refused, or n told -/
def MtQ (M : mm_M) (sz mo aa L : Nat) (E : pE) (cm : Nat → pCm) (td gv up ep : Nat) (n : Int32) (b : Int32) : Option Value → mm_M → Nat → Prop := fun r M' sz' => ((n < 1 ∨ b < n) ∧ r = some (.int (-1)) ∧ M' = M ∧ sz' = sz) ∨ (¬ n < 1 ∧ ¬ b < n ∧ MdQ M sz mo aa L E cm td gv up ep (some (.int n)) r M' sz')
theorem c_mTick {n : Int32} (h : MoP M mo aa L E cm td gv up ep cl) : CT l G Y_Mod_tick ds_Mod_tick (rm 1) [.ref mo, .int n] M sz (MtQ M sz mo aa L E cm td gv up ep n 50) := by
  obtain ⟨vv, hh, kk, ke, wi, an, h0, -⟩ := id h
  refine CT.of (by decide) (Nat.le_of_ble_eq_true rfl) ?_
  refine rw_iload_n d_Mod_tick_0 rfl ?_
  refine rw_iconst (v := 1) d_Mod_tick_1 (by decide) ?_
  refine rw_icmp_lt (tgt := 11) d_Mod_tick_2 (by decide) (fun q => ?_) (fun q => ?_)
  · refine rw_iconst (v := (-1)) d_Mod_tick_11 (by decide) ?_
    exact rw_iret d_Mod_tick_12 rfl (Or.inl ⟨Or.inl q, rfl, rfl, rfl⟩)
  · refine rw_iload_n d_Mod_tick_5 rfl ?_
    refine rw_bipush (v := 50) d_Mod_tick_6 (by decide) ?_
    refine rw_icmp_le (tgt := 13) d_Mod_tick_8 (by decide) (fun q2 => ?_) (fun q2 => ?_)
    · refine rw_aload_n d_Mod_tick_13 rfl (by first | exact mm_ref_r _ | exact mm_ref_n | exact mm_ref_o _) ?_
      refine rw_iconst (v := 0) d_Mod_tick_14 (by decide) ?_
      refine rw_put d_Mod_tick_15 (fP_Mod_52 _) h0 (Nat.le_of_ble_eq_true rfl) (by first | rfl | assumption | decide) (by first | rfl | assumption | decide) ?_
      refine rw_iload_n d_Mod_tick_18 rfl ?_
      exact rw_iret d_Mod_tick_19 rfl (Or.inr ⟨q, Int32.not_lt.mpr q2, rfl, rfl, h.stir rfl, fun q hq => mup_ne _ _ hq⟩)
    · refine rw_iconst (v := (-1)) d_Mod_tick_11 (by decide) ?_
      exact rw_iret d_Mod_tick_12 rfl (Or.inl ⟨Or.inr (Int32.not_le.mp q2), rfl, rfl, rfl⟩)
theorem c_mStir {n s : Int32} (h : MoP M mo aa L E cm td gv up ep cl) : CT l G Y_Mod_stir ds_Mod_stir (rm 1) [.ref mo, .int n, .int s] M sz (MtQ M sz mo aa L E cm td gv up ep n 500) := by
  obtain ⟨vv, hh, kk, ke, wi, an, h0, -⟩ := id h
  refine CT.of (by decide) (Nat.le_of_ble_eq_true rfl) ?_
  refine rw_iload_n d_Mod_stir_0 rfl ?_
  refine rw_iconst (v := 1) d_Mod_stir_1 (by decide) ?_
  refine rw_icmp_lt (tgt := 12) d_Mod_stir_2 (by decide) (fun q => ?_) (fun q => ?_)
  · refine rw_iconst (v := (-1)) d_Mod_stir_12 (by decide) ?_
    exact rw_iret d_Mod_stir_13 rfl (Or.inl ⟨Or.inl q, rfl, rfl, rfl⟩)
  · refine rw_iload_n d_Mod_stir_5 rfl ?_
    refine rw_sipush (v := 500) d_Mod_stir_6 (by decide) ?_
    refine rw_icmp_le (tgt := 14) d_Mod_stir_9 (by decide) (fun q2 => ?_) (fun q2 => ?_)
    · refine rw_aload_n d_Mod_stir_14 rfl (by first | exact mm_ref_r _ | exact mm_ref_n | exact mm_ref_o _) ?_
      refine rw_iconst (v := 0) d_Mod_stir_15 (by decide) ?_
      refine rw_put d_Mod_stir_16 (fP_Mod_52 _) h0 (Nat.le_of_ble_eq_true rfl) (by first | rfl | assumption | decide) (by first | rfl | assumption | decide) ?_
      refine rw_iload_n d_Mod_stir_19 rfl ?_
      exact rw_iret d_Mod_stir_20 rfl (Or.inr ⟨q, Int32.not_lt.mpr q2, rfl, rfl, h.stir rfl, fun q hq => mup_ne _ _ hq⟩)
    · refine rw_iconst (v := (-1)) d_Mod_stir_12 (by decide) ?_
      exact rw_iret d_Mod_stir_13 rfl (Or.inl ⟨Or.inr (Int32.not_le.mp q2), rfl, rfl, rfl⟩)
theorem c_mMap {w : Int32} (hN : eN E < 7) (hw : w &&& nI (2 ^ eN E - 1) = nI (E.2.2 (ep + 1))) (hep : ep + 1 < 1000000) (h : MoP M mo aa L E cm td gv up ep cl) : CT l G Y_Mod_map ds_Mod_map (rm 1) [.ref mo, .int w] M sz (MdQ M sz mo aa L E cm td gv up (ep + 1) (some (.int (nI (ep + 1))))) := by
  obtain ⟨vv, hh, kk, ke, wi, an, h0, _, _, _, _, _, _, ⟨_, _, _, _, _, _, b1, b2, _⟩, _⟩ := id h
  refine CT.of (by decide) (Nat.le_of_ble_eq_true rfl) ?_
  refine rw_aload_n d_Mod_map_0 rfl (by first | exact mm_ref_r _ | exact mm_ref_n | exact mm_ref_o _) ?_
  refine rw_iload_n d_Mod_map_1 rfl ?_
  refine rw_iconst (v := 1) d_Mod_map_2 (by decide) ?_
  refine rw_aload_n d_Mod_map_3 rfl (by first | exact mm_ref_r _ | exact mm_ref_n | exact mm_ref_o _) ?_
  refine rw_get d_Mod_map_4 fF_Mod_34 h0 rfl ?_
  refine rw_ishl d_Mod_map_7 ?_
  refine rw_iconst (v := 1) d_Mod_map_8 (by decide) ?_
  refine rw_isub d_Mod_map_9 ?_
  rw [all_val _ hN]
  refine rw_iand d_Mod_map_10 ?_
  rw [hw]
  refine rw_put d_Mod_map_11 (fP_Mod_43 _) h0 (Nat.le_of_ble_eq_true rfl) (by first | rfl | assumption | decide) (by first | rfl | assumption | decide) ?_
  refine rw_aload_n d_Mod_map_14 rfl (by first | exact mm_ref_r _ | exact mm_ref_n | exact mm_ref_o _) ?_
  refine rw_dup d_Mod_map_15 rfl ?_
  refine rw_get d_Mod_map_16 fF_Mod_30 (mup_self _ _ _) rfl ?_
  refine rw_iconst (v := 1) d_Mod_map_19 (by decide) ?_
  refine rw_iadd d_Mod_map_20 ?_
  rw [nI_1]
  refine rw_put d_Mod_map_21 (fP_Mod_30 _) (mup_self _ _ _) (Nat.le_of_ble_eq_true rfl) (by first | rfl | assumption | decide) (by first | rfl | assumption | decide) ?_
  refine rw_aload_n d_Mod_map_24 rfl (by first | exact mm_ref_r _ | exact mm_ref_n | exact mm_ref_o _) ?_
  refine rw_iconst (v := 0) d_Mod_map_25 (by decide) ?_
  refine rw_put d_Mod_map_26 (fP_Mod_52 _) (mup_self _ _ _) (Nat.le_of_ble_eq_true rfl) (by first | rfl | assumption | decide) (by first | rfl | assumption | decide) ?_
  refine rw_aload_n d_Mod_map_29 rfl (by first | exact mm_ref_r _ | exact mm_ref_n | exact mm_ref_o _) ?_
  refine rw_get d_Mod_map_30 fF_Mod_30 (mup_self _ _ _) rfl ?_
  refine rw_iret d_Mod_map_33 rfl ⟨rfl, rfl, h.obj (mup_self _ _ _) (fun q hq => ?_) b1 hep (by omega), fun q hq => ?_⟩
  · rw [mup_ne _ _ hq, mup_ne _ _ hq, mup_ne _ _ hq]
  · rw [mup_ne _ _ hq, mup_ne _ _ hq, mup_ne _ _ hq]
end MOD
