/-! The constructor of VersionGroup. -/
section INIT4
variable {l : Launch} {G : mm_G} {M : mm_M} {sz : Nat} {E : pE} {ca : Nat → Nat} {cm : Nat → pCm} {v : Nat}
/-- held between two numbers -/
def clp (lo hi : Nat) (k : Int32) : Nat := if k.toInt ≤ lo then lo else if (hi : Int) ≤ k.toInt then hi else k.toInt.toNat
theorem clp_lo {lo hi : Nat} (h : lo ≤ hi) (k : Int32) : lo ≤ clp lo hi k ∧ clp lo hi k ≤ hi := by
  unfold clp
  split
  · omega
  · split <;> omega
theorem clp_eq {lo hi : Nat} (h : lo ≤ hi) (h2 : hi < 1000) (k : Int32) : (if (if nI hi ≤ k then nI hi else k) ≤ nI lo then nI lo else (if nI hi ≤ k then nI hi else k)) = nI (clp lo hi k) := by
  have eh : (nI hi).toInt = hi := nI_toInt (by omega)
  have el : (nI lo).toInt = lo := nI_toInt (by omega)
  unfold clp
  by_cases q : nI hi ≤ k
  · rw [if_pos q]
    rw [Int32.le_iff_toInt_le, eh] at q
    by_cases q2 : nI hi ≤ nI lo
    · rw [if_pos q2]
      rw [Int32.le_iff_toInt_le, eh, el] at q2
      split
      · rfl
      · congr 1
        omega
    · rw [if_neg q2]
      rw [Int32.le_iff_toInt_le, eh, el] at q2
      rw [if_neg (by omega), if_pos q]
  · rw [if_neg q]
    rw [Int32.le_iff_toInt_le, eh] at q
    by_cases q2 : k ≤ nI lo
    · rw [if_pos q2]
      rw [Int32.le_iff_toInt_le, el] at q2
      rw [if_pos q2]
    · rw [if_neg q2]
      rw [Int32.le_iff_toInt_le, el] at q2
      rw [if_neg q2, if_neg q, ← Int32.toInt_inj, nI_toInt (by omega)]
      omega
/-- globals at the start -/
def pY0 : pN := fun z => if z = 0 ∨ (20 ≤ z ∧ z < 40) then 1 else 0
/-- all but the nodes -/
def VgB (M : mm_M) (E : pE) (v : Nat) : Prop := M v = some (vgO v pY0) ∧ M (v + 1) = some (plO (eN E) (eC E)) ∧ PsN M (v + 2) ∧ KpP M E (v + 330) (v + 1) (v + 2) 1 (fun _ => 1) ∧ DkN M (v + 332) (v + 2)
/-- what is asked of E -/
def EOk (E : pE) : Prop := 3 ≤ eN E ∧ eN E < 7 ∧ 2 ≤ eC E ∧ eC E ≤ 3 ∧ E.2.2 1 = 2 ^ eN E - 1 ∧ (∀ e, eM E e < 64) ∧ ∀ e, E.2.2 e < 64
def ViQ (G : mm_G) (M : mm_M) (ca : Nat → Nat) (cm : Nat → pCm) (E : pE) (v : Nat) : Option Value → mm_M → Nat → Prop := fun r M' sz' => r = none ∧ sz' = v + vgN E ∧ VgP G M' ca cm 0 E v (fun _ => pN0) [] pY0 ∧ ∀ q, q < v → M' q = M q
set_option maxRecDepth 100000 in
theorem vgInit_loop {M0 : mm_M} {n c : Int32} (hE : EOk E) (hB : VgB M0 E v) (h00 : ∀ q, q < v → M0 q = M q) : ∀ (m i : Nat) (M1 : mm_M) (f : Nat → Option Nat), m + i = eN E → M1 (v + 336) = some (aR 5 (eN E) f) → (∀ j, j < i → f j = some (v + 337 + 15 * j)) → (∀ q, q < v + 336 → M1 q = M0 q) → (∀ j, j < i → NdP M1 ca cm 0 E (v + 1) (v + 2) (v + 337 + 15 * j) j pN0) →
    RW l G Y_VG_init (rmA 4 426 6421) (mm_Z G (rmA 4 426 6421) (ViQ G M ca cm E v)) (15 * m) (165 * m) 87 [(0, .ref v), (1, .int n), (2, .int c), (3, .ref (v + 1)), (4, .int (nI i))] [] M1 (v + 337 + 15 * i) := by
  obtain ⟨b0, b1, b2, b3, b4⟩ := id hB
  obtain ⟨e1, e2, e3, e4, e5, e6, e7⟩ := id hE
  intro m
  induction m with
  | zero =>
    intro i M1 f hi h1 h2 h3 h4
    have : i = eN E := by omega
    subst this
    have p1 := (h3 (v + 1) (by omega)).trans b1
    refine rw_iload d_VG_init_87 rfl ?_
    refine rw_aload_n d_VG_init_89 rfl (by first | exact mm_ref_r _ | exact mm_ref_n | exact mm_ref_o _) ?_
    refine rw_get d_VG_init_90 fF_VG_48 p1 rfl ?_
    refine rw_icmp_ge_t (tgt := 123) d_VG_init_93 (by decide) (nI_le (a := eN E) (b := eN E) (by omega) (by omega)) ?_
    refine rw_vret d_VG_init_123 rfl ⟨rfl, ?_, ⟨(h3 _ (by omega)).trans b0, ⟨f, h1, h2⟩, ⟨(b2.kept (fun q y1 y2 => h3 q (by omega))).p G ca cm 0 E, fun i hi => by omega, p1, by omega, e2, by omega, e4, by omega, e6, e7⟩, ?_, ?_, rfl, h4, by decide, fun n hn => ?_, by decide, e1⟩, fun q hq => (h3 q (by omega)).trans (h00 q hq)⟩
    · simp only [vgN]
      omega
    · refine (b3.kept (M' := M1) (fun q y1 y2 => h3 q (by omega))).ext (fun n hn => ?_)
      simp only [pY0]
      rw [if_pos (by omega)]
    · refine (DkP.kept (M' := M1) (b4.p ca cm) (fun q y1 y2 => h3 q (by omega))).ext (fun j hj => ?_)
      simp only [pY0]
      rw [if_neg (by omega)]
    · simp only [pY0]
      split <;> omega
  | succ m ih =>
    intro i M1 f hi h1 h2 h3 h4
    have p0 := (h3 v (by omega)).trans b0
    have p1 := (h3 (v + 1) (by omega)).trans b1
    refine rw_fewer (kc' := 15 * m + 14 + 1) (ks' := 165 * m + 155 + 10) (by omega) (by omega) ?_
    refine rw_iload d_VG_init_87 rfl ?_
    refine rw_aload_n d_VG_init_89 rfl (by first | exact mm_ref_r _ | exact mm_ref_n | exact mm_ref_o _) ?_
    refine rw_get d_VG_init_90 fF_VG_48 p1 rfl ?_
    refine rw_icmp_ge_f (tgt := 123) d_VG_init_93 (by decide) (nI_ge (a := i) (b := eN E) (by omega) (by omega)) ?_
    refine rw_aload_n d_VG_init_96 rfl (by first | exact mm_ref_r _ | exact mm_ref_n | exact mm_ref_o _) ?_
    refine rw_get d_VG_init_97 fF_VG_54 p0 rfl ?_
    refine rw_iload d_VG_init_100 rfl ?_
    refine rw_new (N := 10) (kc := 15 * m + 14) (ks := 165 * m + 155) d_VG_init_102 nN_VG_52 ?_
    refine rw_dup d_VG_init_105 rfl ?_
    refine rw_iload d_VG_init_106 rfl ?_
    refine rw_aload_n d_VG_init_108 rfl (by first | exact mm_ref_r _ | exact mm_ref_n | exact mm_ref_o _) ?_
    refine rw_aload_n d_VG_init_109 rfl (by first | exact mm_ref_r _ | exact mm_ref_n | exact mm_ref_o _) ?_
    refine rw_get d_VG_init_110 fF_VG_24 (mup_get (by omega) p0) rfl ?_
    refine rw_callI (kc := 15 * m) (ks := 165 * m) (rest := [.ref (v + 337 + 15 * i), .int (nI i), .ref (v + 336)]) d_VG_init_113 (c_nodeInit (E := E) (ca := ca) (cm := cm) (a := v + 337 + 15 * i) (pl := v + 1) (p := v + 2) (n := i) (mup_self _ _ _) (mup_get (by omega) p1) e2 e4 (by omega) e5 (e6 1)) mW_Node_init mL_VG_57 mI_Node_init rfl rfl ⟨by decide, by decide⟩ rfl rfl (Nat.le_of_ble_eq_true rfl) (fun r M2 sz2 hq => ?_)
    obtain ⟨rfl, rfl, q1, q2⟩ := hq
    refine rw_stk (st' := [.ref (v + 337 + 15 * i), .int (nI i), .ref (v + 336)]) rfl ?_
    have k2 : ∀ q, q < v + 337 + 15 * i → M2 q = M1 q := fun q hq => (q2 q hq).trans (mup_ne _ _ (by omega))
    refine rw_aast d_VG_init_116 ((k2 (v + 336) (by omega)).trans h1) (by decide) q1.1 rfl rfl (vp_in_nI (show i < eN E by omega) (by omega)) ?_
    rw [nI_c (by omega)]
    refine rw_iinc d_VG_init_117 (by decide) rfl rfl rfl ?_
    refine rw_lv (lv' := [(0, .ref v), (1, .int n), (2, .int c), (3, .ref (v + 1)), (4, .int (nI (i + 1)))]) (by rw [← nI_1]; intro q hq; simp at hq; rcases hq with rfl | rfl | rfl | rfl | rfl <;> rfl) ?_
    refine rw_goto (tgt := 87) d_VG_init_120 (by decide) ?_
    refine ih (i + 1) _ (va_up f i (some (v + 337 + 15 * i))) (by omega) (mup_self _ _ _) (fun j hj => ?_) (fun q hq => by rw [mup_ne _ _ (by omega), k2 q (by omega)]; exact h3 q hq) (fun j hj => ?_)
    · by_cases z : j = i
      · subst z
        rw [va_up_self]
      · rw [va_up_ne _ _ z]
        exact h2 j (by omega)
    · by_cases z : j = i
      · subst z
        exact q1.kept (fun q y1 y2 => mup_ne _ _ (by omega))
      · exact (h4 j (by omega)).kept (fun q y1 y2 => by rw [mup_ne _ _ (by omega), k2 q (by omega)])
end INIT4
