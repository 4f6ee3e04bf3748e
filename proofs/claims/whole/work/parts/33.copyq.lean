/-! Copy: copyFrom, empty, append by numbers, follow. -/
theorem bI_or (a b : Bool) : bI a ||| bI b = bI (a || b) := by cases a <;> cases b <;> rfl
theorem nI_ok (n : Nat) (h : n < 1000000) : n < 2147483648 := by omega
section COPYQ
variable {l : Launch} {G : mm_G} {sz : Nat} {ca : Nat → Nat} {cm : Nat → pCm} {g : Nat}
def CfQ (M : mm_M) (sz : Nat) (ca : Nat → Nat) (cm : Nat → pCm) (g a d b f : Nat) (w : Bool) : Option Value → mm_M → Nat → Prop := fun r M' sz' => r = none ∧ sz' = sz ∧ CpP (if w then f else min f 1) M' ca cm g a d b ∧ Fr M M' a 4
theorem copyFrom_loop {M : mm_M} {a o d b f : Nat} {w : Bool} {ho : Int64} {vo ano : Nat → Int32} {lgo : Nat → Option Nat} (hA : CmA M ca cm g) (hO : CpR M o d b ho vo ano lgo) (hao : o + 4 ≤ a ∨ a + 4 ≤ o) (b1 : d ≤ 512) (b2 : b ≤ 512) (b3 : ∀ j, j < 8 → lgo j = none ∨ ∃ i, i < g ∧ lgo j = some (ca i))
    (b4 : 1 ≤ f → d ≤ b ∧ b ≤ d + 8 ∧ b ≤ g ∧ ∀ i, i < b → b ≤ i + 8 → lgo (i % 8) = some (ca i)) (b5 : 2 ≤ f → hOk ho (tab cm d).1 ∧ (∀ k, k < 40 → vo k = (tab cm d).2 k) ∧ ∀ i, i < d → d ≤ i + 8 → ano (i % 8) = tAns cm i) (hap : ∀ i, i < g → ca i < a ∨ a + 4 ≤ ca i) :
    ∀ (n i : Nat) (M1 : mm_M) (h : Int64) (v an : Nat → Int32) (lg : Nat → Option Nat), n + i = 8 → CpR M1 a d b h v an lg → (∀ j, j < i → lg j = lgo j) → Fr M M1 a 4 →
    RW l G Y_Copy_copyFrom (rm 1) (mm_Z G (rm 1) (CfQ M sz ca cm g a d b f w)) 0 0 18 [(0, .ref a), (1, .ref o), (2, .int (bI w)), (3, .int (nI i))] [] M1 sz := by
  intro n
  induction n with
  | zero =>
    intro i M1 h v an lg hn hC hlg hF
    obtain ⟨r0, r1, r2, r3⟩ := id hC
    have o0 := (hF o (by omega)).trans hO.1
    have o1 := (hF (o + 1) (by omega)).trans hO.2.1
    have o2 := (hF (o + 2) (by omega)).trans hO.2.2.1
    have hi : i = 8 := by omega
    subst hi
    have wf : ∀ j, j < 8 → lg j = none ∨ ∃ i, i < g ∧ lg j = some (ca i) := fun j hj => by rw [hlg j hj]; exact b3 j hj
    have lk : ∀ k, lg (k % 8) = lgo (k % 8) := fun k => hlg _ (Nat.mod_lt _ (by omega))
    refine rw_iload_n d_Copy_copyFrom_18 rfl ?_
    refine rw_bipush (v := 8) d_Copy_copyFrom_19 (by decide) ?_
    refine rw_icmp_ge_t (tgt := 42) d_Copy_copyFrom_21 (by decide) (by decide) ?_
    refine rw_iload_n d_Copy_copyFrom_42 rfl ?_
    cases w with
    | false =>
      refine rw_if_eq_t (tgt := 84) d_Copy_copyFrom_43 (by decide) (rfl) ?_
      refine rw_vret d_Copy_copyFrom_84 rfl ⟨rfl, rfl, ⟨h, v, an, lg, hC, b1, b2, wf, fun q => ?_, fun q => ?_⟩, hF⟩
      · obtain ⟨z1, z2, z3, z4⟩ := b4 (by simp at q; omega)
        exact ⟨z1, z2, z3, fun k h1 h2 => by rw [lk]; exact z4 k h1 h2⟩
      · simp at q
        omega
    | true =>
      refine rw_if_eq_f (tgt := 84) d_Copy_copyFrom_43 (by decide) (by decide) ?_
      refine rw_aload_n d_Copy_copyFrom_46 rfl (by first | exact mm_ref_r _ | exact mm_ref_n | exact mm_ref_o _) ?_
      refine rw_aload_n d_Copy_copyFrom_47 rfl (by first | exact mm_ref_r _ | exact mm_ref_n | exact mm_ref_o _) ?_
      refine rw_get d_Copy_copyFrom_48 fF_Copy_24 o0 rfl ?_
      refine rw_put d_Copy_copyFrom_51 (fP_Copy_24 _) r0 (Nat.le_of_ble_eq_true rfl) (by first | rfl | assumption | decide) (by first | rfl | decide) ?_
      refine rw_aload_n d_Copy_copyFrom_54 rfl (by first | exact mm_ref_r _ | exact mm_ref_n | exact mm_ref_o _) ?_
      refine rw_get d_Copy_copyFrom_55 fF_Copy_9 (mup_get (by omega) o0) rfl ?_
      refine rw_iconst (v := 0) d_Copy_copyFrom_58 (by decide) ?_
      refine rw_aload_n d_Copy_copyFrom_59 rfl (by first | exact mm_ref_r _ | exact mm_ref_n | exact mm_ref_o _) ?_
      refine rw_get d_Copy_copyFrom_60 fF_Copy_9 (mup_self _ _ _) rfl ?_
      refine rw_iconst (v := 0) d_Copy_copyFrom_63 (by decide) ?_
      refine rw_bipush (v := 40) d_Copy_copyFrom_64 (by decide) ?_
      refine rw_acopy d_Copy_copyFrom_66 mL_Copy_74 (mup_get (by omega) o1) (mup_get (by omega) r1) (by decide) (by decide) (by decide) (by decide) (by decide) (by decide) (Nat.le_of_ble_eq_true rfl) ?_
      refine rw_aload_n d_Copy_copyFrom_69 rfl (by first | exact mm_ref_r _ | exact mm_ref_n | exact mm_ref_o _) ?_
      refine rw_get d_Copy_copyFrom_70 fF_Copy_15 (mup_get (by omega) (mup_get (by omega) o0)) rfl ?_
      refine rw_iconst (v := 0) d_Copy_copyFrom_73 (by decide) ?_
      refine rw_aload_n d_Copy_copyFrom_74 rfl (by first | exact mm_ref_r _ | exact mm_ref_n | exact mm_ref_o _) ?_
      refine rw_get d_Copy_copyFrom_75 fF_Copy_15 (mup_get (by omega) (mup_self _ _ _)) rfl ?_
      refine rw_iconst (v := 0) d_Copy_copyFrom_78 (by decide) ?_
      refine rw_bipush (v := 8) d_Copy_copyFrom_79 (by decide) ?_
      refine rw_acopy d_Copy_copyFrom_81 mL_Copy_74 (mup_get (by omega) (mup_get (by omega) o2)) (mup_get (by omega) (mup_get (by omega) r2)) (by decide) (by decide) (by decide) (by decide) (by decide) (by decide) (Nat.le_of_ble_eq_true rfl) ?_
      refine rw_vret d_Copy_copyFrom_84 rfl ⟨rfl, rfl, ⟨ho, va_cpy vo v 0 0 40, va_cpy ano an 0 0 8, lg, ⟨?_, ?_, ?_, ?_⟩, b1, b2, wf, fun q => ?_, fun q => ?_⟩, ?_⟩
      · simp [mup]
      · simp [mup]
      · simp [mup]
      · simp [mup, r3]
      · obtain ⟨z1, z2, z3, z4⟩ := b4 (by simpa using q)
        exact ⟨z1, z2, z3, fun k h1 h2 => by rw [lk]; exact z4 k h1 h2⟩
      · obtain ⟨z1, z2, z3⟩ := b5 (by simpa using q)
        refine ⟨z1, fun k hk => ?_, fun k h1 h2 => ?_⟩
        · rw [← z2 k hk]
          simp [va_cpy, hk]
        · rw [← z3 k h1 h2]
          simp [va_cpy, Nat.mod_lt]
      · exact Fr.mup (Fr.mup (Fr.mup hF (by omega) (by omega)) (by omega) (by omega)) (by omega) (by omega)
  | succ n ih =>
    intro i M1 h v an lg hn hC hlg hF
    obtain ⟨r0, r1, r2, r3⟩ := id hC
    have o0 := (hF o (by omega)).trans hO.1
    have o3 := (hF (o + 3) (by omega)).trans hO.2.2.2
    have hin : vp_in (nI i) 8 := vp_in_nI (by omega) (by omega)
    have hic : (nI i).toNatClampNeg = i := nI_c (by omega)
    refine rw_iload_n d_Copy_copyFrom_18 rfl ?_
    refine rw_bipush (v := 8) d_Copy_copyFrom_19 (by decide) ?_
    refine rw_icmp_ge_f (tgt := 42) d_Copy_copyFrom_21 (by decide) (nI_ge (a := i) (b := 8) (by omega) (by omega)) ?_
    refine rw_aload_n d_Copy_copyFrom_24 rfl (by first | exact mm_ref_r _ | exact mm_ref_n | exact mm_ref_o _) ?_
    refine rw_get d_Copy_copyFrom_25 fF_Copy_20 r0 rfl ?_
    refine rw_iload_n d_Copy_copyFrom_28 rfl ?_
    refine rw_aload_n d_Copy_copyFrom_29 rfl (by first | exact mm_ref_r _ | exact mm_ref_n | exact mm_ref_o _) ?_
    refine rw_get d_Copy_copyFrom_30 fF_Copy_20 o0 rfl ?_
    refine rw_iload_n d_Copy_copyFrom_33 rfl ?_
    refine rw_aald d_Copy_copyFrom_34 o3 (by decide) rfl hin ?_
    rw [hic]
    have step : ∀ x : Option Nat, lgo i = x → RW l G Y_Copy_copyFrom (rm 1) (mm_Z G (rm 1) (CfQ M sz ca cm g a d b f w)) 0 0 36 [(0, .ref a), (1, .ref o), (2, .int (bI w)), (3, .int (nI i))] [] (mup M1 (a + 3) (aR 3 8 (va_up lg i x))) sz := by
      intro x hx
      refine rw_iinc d_Copy_copyFrom_36 (by decide) rfl rfl rfl ?_
      refine rw_lv (lv' := [(0, .ref a), (1, .ref o), (2, .int (bI w)), (3, .int (nI (i + 1)))]) (by rw [← nI_1]; intro q hq; simp at hq; rcases hq with rfl | rfl | rfl | rfl <;> rfl) ?_
      refine rw_goto (tgt := 18) d_Copy_copyFrom_39 (by decide) ?_
      refine ih (i + 1) _ h v an (va_up lg i x) (by omega) ⟨?_, ?_, ?_, ?_⟩ (fun j hj => ?_) (Fr.mup hF (by omega) (by omega))
      · simp [mup, r0]
      · simp [mup, r1]
      · simp [mup, r2]
      · simp [mup]
      · by_cases q : j = i
        · subst q
          rw [va_up_self, hx]
        · rw [va_up_ne _ _ q]
          exact hlg j (by omega)
    rcases b3 i (by omega) with z | ⟨k, hk, z⟩
    · rw [z]
      refine rw_aastN d_Copy_copyFrom_35 r3 (by decide) rfl hin ?_
      rw [hic]
      exact step none z
    · rw [z]
      refine rw_aast (v := ca k) d_Copy_copyFrom_35 r3 (by decide) ((hF _ (hap k hk)).trans (hA k hk).2) rfl rfl hin ?_
      rw [hic]
      exact step (some (ca k)) z
theorem c_copyFrom {M : mm_M} {a o d b f d0 b0 : Nat} {w : Bool} (hA : CmA M ca cm g) (hS : CpP 0 M ca cm g a d0 b0) (hO : CpP f M ca cm g o d b) (hao : o + 4 ≤ a ∨ a + 4 ≤ o) : CT l G Y_Copy_copyFrom ds_Copy_copyFrom (rm 1) [.ref a, .ref o, .int (bI w)] M sz (CfQ M sz ca cm g a d b f w) := by
  obtain ⟨ho, vo, ano, lgo, hOr, b1, b2, b3, b4, b5⟩ := hO
  obtain ⟨h, v, an, lg, hSr, c1, c2, c3, -, -⟩ := hS
  obtain ⟨r0, r1, r2, r3⟩ := id hSr
  obtain ⟨o0, o1, o2, o3⟩ := id hOr
  refine CT.of (by decide) (Nat.le_of_ble_eq_true rfl) ?_
  refine rw_aload_n d_Copy_copyFrom_0 rfl (by first | exact mm_ref_r _ | exact mm_ref_n | exact mm_ref_o _) ?_
  refine rw_aload_n d_Copy_copyFrom_1 rfl (by first | exact mm_ref_r _ | exact mm_ref_n | exact mm_ref_o _) ?_
  refine rw_get d_Copy_copyFrom_2 fF_Copy_28 o0 rfl ?_
  refine rw_put d_Copy_copyFrom_5 (fP_Copy_28 _) r0 (Nat.le_of_ble_eq_true rfl) (by first | rfl | assumption | decide) (by first | rfl | decide) ?_
  refine rw_aload_n d_Copy_copyFrom_8 rfl (by first | exact mm_ref_r _ | exact mm_ref_n | exact mm_ref_o _) ?_
  refine rw_aload_n d_Copy_copyFrom_9 rfl (by first | exact mm_ref_r _ | exact mm_ref_n | exact mm_ref_o _) ?_
  refine rw_get d_Copy_copyFrom_10 fF_Copy_35 (mup_get (by omega) o0) rfl ?_
  refine rw_put d_Copy_copyFrom_13 (fP_Copy_35 _) (mup_self _ _ _) (Nat.le_of_ble_eq_true rfl) (by first | rfl | assumption | decide) (by first | rfl | decide) ?_
  refine rw_iconst (v := 0) d_Copy_copyFrom_16 (by decide) ?_
  refine rw_istore_n d_Copy_copyFrom_17 (by decide) rfl ?_
  refine rw_lv (lv' := [(0, .ref a), (1, .ref o), (2, .int (bI w)), (3, .int (nI 0))]) (by intro q hq; simp at hq; rcases hq with rfl | rfl | rfl | rfl <;> rfl) ?_
  refine copyFrom_loop hA hOr hao b1 b2 b3 b4 b5 (fun i hi => hA.apart hSr hi) 8 0 _ h v an lg rfl ⟨?_, ?_, ?_, ?_⟩ (fun j hj => by omega) ?_
  · simp [mup]
  · simp [mup, r1]
  · simp [mup, r2]
  · simp [mup, r3]
  · exact Fr.mup (Fr.mup Fr.rf (by omega) (by omega)) (by omega) (by omega)
def EmQ (M : mm_M) (sz : Nat) (ca : Nat → Nat) (cm : Nat → pCm) (g a : Nat) : Option Value → mm_M → Nat → Prop := fun r M' sz' => r = none ∧ sz' = sz ∧ CpP 2 M' ca cm g a 0 0 ∧ Fr M M' a 4
theorem empty_loop {M : mm_M} {a : Nat} : ∀ (n i : Nat) (M1 : mm_M) (v an : Nat → Int32) (lg : Nat → Option Nat), n + i = 40 → CpR M1 a 0 0 0 v an lg → (∀ j, j < i → v j = 0) → (∀ j, j < 8 → lg j = none ∨ ∃ i, i < g ∧ lg j = some (ca i)) → Fr M M1 a 4 →
    RW l G Y_Copy_empty (rm 1) (mm_Z G (rm 1) (EmQ M sz ca cm g a)) 0 0 17 [(0, .ref a), (1, .int (nI i))] [] M1 sz := by
  intro n
  induction n with
  | zero =>
    intro i M1 v an lg hn hC hv wf hF
    have hi : i = 40 := by omega
    subst hi
    refine rw_iload_n d_Copy_empty_17 rfl ?_
    refine rw_bipush (v := 40) d_Copy_empty_18 (by decide) ?_
    refine rw_icmp_ge_t (tgt := 36) d_Copy_empty_20 (by decide) (by decide) ?_
    exact rw_vret d_Copy_empty_36 rfl ⟨rfl, rfl, ⟨0, v, an, lg, hC, by omega, by omega, wf, fun _ => ⟨by omega, by omega, by omega, fun i hi => by omega⟩, fun _ => ⟨fun k hk => by simp [tab], fun k hk => hv k hk, fun i hi => by omega⟩⟩, hF⟩
  | succ n ih =>
    intro i M1 v an lg hn hC hv wf hF
    obtain ⟨r0, r1, r2, r3⟩ := id hC
    have hin : vp_in (nI i) 40 := vp_in_nI (by omega) (by omega)
    have hic : (nI i).toNatClampNeg = i := nI_c (by omega)
    refine rw_iload_n d_Copy_empty_17 rfl ?_
    refine rw_bipush (v := 40) d_Copy_empty_18 (by decide) ?_
    refine rw_icmp_ge_f (tgt := 36) d_Copy_empty_20 (by decide) (nI_ge (a := i) (b := 40) (by omega) (by omega)) ?_
    refine rw_aload_n d_Copy_empty_23 rfl (by first | exact mm_ref_r _ | exact mm_ref_n | exact mm_ref_o _) ?_
    refine rw_get d_Copy_empty_24 fF_Copy_9 r0 rfl ?_
    refine rw_iload_n d_Copy_empty_27 rfl ?_
    refine rw_iconst (v := 0) d_Copy_empty_28 (by decide) ?_
    refine rw_iast d_Copy_empty_29 r1 hin ?_
    rw [hic]
    refine rw_iinc d_Copy_empty_30 (by decide) rfl rfl rfl ?_
    refine rw_lv (lv' := [(0, .ref a), (1, .int (nI (i + 1)))]) (by rw [← nI_1]; intro q hq; simp at hq; rcases hq with rfl | rfl <;> rfl) ?_
    refine rw_goto (tgt := 17) d_Copy_empty_33 (by decide) ?_
    refine ih (i + 1) _ (upd v i 0) an lg (by omega) ⟨?_, ?_, ?_, ?_⟩ (fun j hj => ?_) wf (Fr.mup hF (by omega) (by omega))
    · simp [mup, r0]
    · simp [mup]
    · simp [mup, r2]
    · simp [mup, r3]
    · by_cases q : j = i
      · simp [upd, q]
      · simp only [upd, if_neg q]
        exact hv j (by omega)
theorem c_empty {M : mm_M} {a d b : Nat} (hC : CpP 0 M ca cm g a d b) : CT l G Y_Copy_empty ds_Copy_empty (rm 1) [.ref a] M sz (EmQ M sz ca cm g a) := by
  obtain ⟨h, v, an, lg, hr, c1, c2, wf, -, -⟩ := hC
  obtain ⟨r0, r1, r2, r3⟩ := id hr
  refine CT.of (by decide) (Nat.le_of_ble_eq_true rfl) ?_
  refine rw_aload_n d_Copy_empty_0 rfl (by first | exact mm_ref_r _ | exact mm_ref_n | exact mm_ref_o _) ?_
  refine rw_iconst (v := 0) d_Copy_empty_1 (by decide) ?_
  refine rw_put d_Copy_empty_2 (fP_Copy_28 _) r0 (Nat.le_of_ble_eq_true rfl) (by first | rfl | assumption | decide) (by first | rfl | decide) ?_
  refine rw_aload_n d_Copy_empty_5 rfl (by first | exact mm_ref_r _ | exact mm_ref_n | exact mm_ref_o _) ?_
  refine rw_iconst (v := 0) d_Copy_empty_6 (by decide) ?_
  refine rw_put d_Copy_empty_7 (fP_Copy_35 _) (mup_self _ _ _) (Nat.le_of_ble_eq_true rfl) (by first | rfl | assumption | decide) (by first | rfl | decide) ?_
  refine rw_aload_n d_Copy_empty_10 rfl (by first | exact mm_ref_r _ | exact mm_ref_n | exact mm_ref_o _) ?_
  refine rw_lconst (v := 0) d_Copy_empty_11 (by decide) ?_
  refine rw_put d_Copy_empty_12 (fP_Copy_24 _) (mup_self _ _ _) (Nat.le_of_ble_eq_true rfl) (by first | rfl | assumption | decide) (by first | rfl | decide) ?_
  refine rw_iconst (v := 0) d_Copy_empty_15 (by decide) ?_
  refine rw_istore_n d_Copy_empty_16 (by decide) rfl ?_
  refine rw_lv (lv' := [(0, .ref a), (1, .int (nI 0))]) (by intro q hq; simp at hq; rcases hq with rfl | rfl <;> rfl) ?_
  refine empty_loop 40 0 _ v an lg rfl ⟨?_, ?_, ?_, ?_⟩ (fun j hj => by omega) wf (Fr.mup (Fr.mup (Fr.mup Fr.rf (by omega) (by omega)) (by omega) (by omega)) (by omega) (by omega))
  · rw [mup_self]
    rfl
  · simp [mup, r1]
  · simp [mup, r2]
  · simp [mup, r3]
end COPYQ
