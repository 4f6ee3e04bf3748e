/-! VersionGroup: give. -/
section GROW
variable {G : mm_G} {M : mm_M} {ca : Nat → Nat} {cm : Nat → pCm} {g : Nat} {E : pE} {s : Nat} {c : pCm}
theorem ca_grow {cv : Value} (h : cv = .null ∨ ∃ i, i < g ∧ cv = .ref (ca i)) : cv = .null ∨ ∃ i, i < g + 1 ∧ cv = .ref (va_up ca g s i) :=
  h.imp id (fun ⟨i, hi, e⟩ => ⟨i, by omega, by rw [va_up_ne _ _ (by omega)]; exact e⟩)
theorem CpP.grow {f a d b : Nat} (h : CpP f M ca cm g a d b) : CpP f M (va_up ca g s) (va_up cm g c) (g + 1) a d b := by
  obtain ⟨hh, v, an, lg, hr, h1, h2, h3, h4, h5⟩ := h
  refine ⟨hh, v, an, lg, hr, h1, h2, fun j hj => (h3 j hj).imp id (fun ⟨i, hi, e⟩ => ⟨i, by omega, by rw [va_up_ne _ _ (by omega)]; exact e⟩), fun q => ?_, fun q => ?_⟩
  · obtain ⟨c1, c2, c3, c4⟩ := h4 q
    exact ⟨c1, c2, by omega, fun i i1 i2 => by rw [va_up_ne _ _ (by omega)]; exact c4 i i1 i2⟩
  · obtain ⟨c1, c2, c3, -⟩ := h4 (by omega)
    obtain ⟨t1, t2, t3⟩ := h5 q
    rw [tab_up d (by omega)]
    exact ⟨t1, t2, fun i i1 i2 => by rw [tAns_up (by omega)]; exact t3 i i1 i2⟩
theorem MsW.grow {q : Nat} (h : MsW M ca cm g q) : MsW M (va_up ca g s) (va_up cm g c) (g + 1) q := by
  obtain ⟨kv, f, t, e, s', en, dn, nu, an, cv, d, b, h1, h2, h3⟩ := h
  exact ⟨kv, f, t, e, s', en, dn, nu, an, cv, d, b, h1, ca_grow h2, h3.grow⟩
theorem MsP.grow {q : Nat} {m : pMsg} (h : MsP G M ca cm g E q m) (hm : m.1 = 3 → m.2.2.2.2.1 < g) : MsP G M (va_up ca g s) (va_up cm g c) (g + 1) E q m := by
  obtain ⟨s', en, dn, nu, an, cv, d, b, h1, h2, h3, h4, h5, h6, h7, h8, h9⟩ := h
  refine ⟨s', en, dn, nu, an, cv, d, b, h1, ca_grow h2, h3.grow, h4, fun z => ?_, fun z => ?_, h7, fun z => (h8 z).grow, fun z => (h9 z).grow⟩
  · obtain ⟨a1, a2⟩ := h5 z
    exact ⟨by omega, by rw [va_up_ne _ _ (by omega)]; exact a2⟩
  · rw [tAns_up (hm z)]
    exact h6 z
theorem PsP.grow {p : Nat} {post : List pMsg} (h : PsP G M ca cm g E p post) (hm : ∀ m, m ∈ post → m.1 = 3 → m.2.2.2.2.1 < g) : PsP G M (va_up ca g s) (va_up cm g c) (g + 1) E p post := by
  obtain ⟨sl, f, ord, h1, h2, h3, h4, h5, h6, h7, h8, h9⟩ := h
  exact ⟨sl, f, ord, h1, h2, h3, h4, h5, h6, h7, fun i hi => (h8 i hi).grow, fun i m hi => (h9 i m hi).grow (hm m (List.mem_of_getElem? hi))⟩
theorem MeP.grow {a ep d b : Nat} (h : MeP M ca cm g E a ep d b) : MeP M (va_up ca g s) (va_up cm g c) (g + 1) E a ep d b := ⟨h.1, h.2.grow⟩
theorem NdP.grow {pl p a n : Nat} {x : pN} (h : NdP M ca cm g E pl p a n x) : NdP M (va_up ca g s) (va_up cm g c) (g + 1) E pl p a n x :=
  ⟨h.1, h.2.1.grow, h.2.2.1.grow, h.2.2.2⟩
end GROW
section GIVE
variable {l : Launch} {G : mm_G} {sz : Nat} {ca : Nat → Nat} {cm : Nat → pCm} {g : Nat} {E : pE} {v : Nat} {nd : Nat → pN} {post : List pMsg} {y : pN}
theorem c_isKey {M : mm_M} {k : Int32} : CT l G Y_VG_isKey ds_VG_isKey (rm 1) [.int k] M sz (fun r M' sz' => (∃ c : Bool, r = some (.int (bI c)) ∧ (c = true ↔ ∃ n, n < 40 ∧ k = nI n)) ∧ M' = M ∧ sz' = sz) := by
  refine CT.of (by decide) (Nat.le_of_ble_eq_true rfl) ?_
  refine rw_iload_n d_VG_isKey_0 rfl ?_
  refine rw_if_lt (tgt := 14) d_VG_isKey_1 (by decide) (fun q => ?_) (fun q => ?_)
  · refine rw_iconst (v := 0) d_VG_isKey_14 (by decide) ?_
    refine rw_zret d_VG_isKey_15 rfl rfl ⟨⟨false, rfl, (fun z => by cases z), fun ⟨n, hn, z⟩ => ?_⟩, rfl, rfl⟩
    rw [z] at q
    exact absurd q (nI_pos (by omega))
  · refine rw_iload_n d_VG_isKey_4 rfl ?_
    refine rw_bipush (v := 40) d_VG_isKey_5 (by decide) ?_
    obtain ⟨n, hn, rfl⟩ := nI_of q
    by_cases c : n < 40
    · refine rw_icmp_ge_f (tgt := 14) d_VG_isKey_7 (by decide) (nI_ge (a := n) (b := 40) c (by omega)) ?_
      refine rw_iconst (v := 1) d_VG_isKey_10 (by decide) ?_
      refine rw_goto (tgt := 15) d_VG_isKey_11 (by decide) ?_
      exact rw_zret d_VG_isKey_15 rfl rfl ⟨⟨true, rfl, fun _ => ⟨n, c, rfl⟩, fun _ => rfl⟩, rfl, rfl⟩
    · refine rw_icmp_ge_t (tgt := 14) d_VG_isKey_7 (by decide) (nI_le (a := 40) (b := n) (by omega) hn) ?_
      refine rw_iconst (v := 0) d_VG_isKey_14 (by decide) ?_
      refine rw_zret d_VG_isKey_15 rfl rfl ⟨⟨false, rfl, (fun z => by cases z), fun ⟨n2, hn2, z⟩ => ?_⟩, rfl, rfl⟩
      rw [nI_eq hn (by omega)] at z
      omega
/-- what give takes -/
def gOk (k x w : Int32) : Prop := ∃ kd kx, k = nI kd ∧ x = nI kx ∧ cOk (kd, kx, w)
/-- globals behind a command -/
def pGiv (y : pN) (g : Nat) : pN := pu (pu (pu y 3 0) 1 (g + 1)) (40 + g % 8) 0
def GvQ (G : mm_G) (M : mm_M) (sz : Nat) (ca : Nat → Nat) (cm : Nat → pCm) (g : Nat) (E : pE) (v : Nat) (nd : Nat → pN) (post : List pMsg) (y : pN) (k x w : Int32) : Option Value → mm_M → Nat → Prop := fun r M' sz' =>
  (¬ gOk k x w ∧ r = some (.int (-1)) ∧ M' = M ∧ sz' = sz) ∨
  (gOk k x w ∧ (8 ≤ g - y 2 ∨ 512 ≤ g) ∧ r = some (.int (-2)) ∧ M' = M ∧ sz' = sz) ∨
  (¬ (8 ≤ g - y 2 ∨ 512 ≤ g) ∧ r = some (.int (nI g)) ∧ sz' = sz + 1 ∧ ∃ kd kx, k = nI kd ∧ x = nI kx ∧ cOk (kd, kx, w) ∧
    VgP G M' (va_up ca g sz) (va_up cm g (kd, kx, w)) (g + 1) E v nd (pSend post (pReq1 (eL E (y 0)) (y 0) g)) (pGiv y g) ∧ ∀ q, q < sz → q < v ∨ v + vgN E ≤ q → M' q = M q)
set_option maxRecDepth 100000 in
theorem give_tail {M : mm_M} {kd kx : Nat} {w : Int32} (h : VgP G M ca cm g E v nd post y) (hc : cOk (kd, kx, w)) (hsz : v + vgN E ≤ sz) (hca : ∀ i, i < g → ca i < sz) (hm : ∀ m, m ∈ post → m.1 = 3 → m.2.2.2.2.1 < g) :
    RW l G Y_VG_give (rmA 3 1 4) (mm_Z G (rmA 3 1 4) (GvQ G M sz ca cm g E v nd post y (nI kd) (nI kx) w)) 1 4 30 [(0, .ref v), (1, .int (nI kd)), (2, .int (nI kx)), (3, .int w)] [] M sz := by
  have g1 : VgP G (mup M v (.inr (10, [.ref (v + 2), .ref (v + 330), .ref (v + 332), .ref (v + 336), .int 0]))) ca cm g E v nd post (pu y 3 0) := h.calm (c := 0) (by omega) rfl
  obtain ⟨h0, ⟨f, h1, h1b⟩, h2, h3, h4, h5, h6, -⟩ := id h
  obtain ⟨k0, ⟨fk, k1, k1b⟩, k2, k3, k4, k5, k6, k7, k8, k9, k10⟩ := id g1
  have hN7 := h2.2.2.2.2.1
  have hok : gOk (nI kd) (nI kx) w := ⟨kd, kx, rfl, rfl, hc⟩
  obtain ⟨cs, arr, an, d0, -, -, -, td1, td2, td3, -⟩ := id h4
  obtain ⟨cs', arr', an', d0', -⟩ := id k4
  obtain ⟨fp, p0, -⟩ := id k3
  simp only [vgN] at hsz
  have e3 : ∀ z, z ≠ 3 → pu y 3 0 z = y z := fun z hz => pu_ne _ _ hz
  rw [e3 1 (by omega), e3 2 (by omega)] at k4
  refine rw_aload_n d_VG_give_30 rfl (by first | exact mm_ref_r _ | exact mm_ref_n | exact mm_ref_o _) ?_
  refine rw_get d_VG_give_31 fF_VG_44 h0 rfl ?_
  refine rw_callV (kc := 1) (ks := 4) (rest := []) d_VG_give_34 (c_isFull h4) mW_Desk_isFull mL_VG_64 mI_Desk_isFull mE_Desk_isFull ⟨by decide, by decide⟩ d0 rfl rfl rfl rfl (Nat.le_of_ble_eq_true rfl) (fun r M1 sz1 hq => ?_)
  obtain ⟨rfl, e1, e2⟩ := hq
  rw [e1, e2, h5]
  by_cases c : 8 ≤ g - y 2 ∨ 512 ≤ g
  · rw [decide_eq_true c]
    refine rw_stk (st' := [.int 1]) rfl ?_
    refine rw_if_eq_f (tgt := 43) d_VG_give_37 (by decide) (by decide) ?_
    refine rw_bipush (v := (-2)) d_VG_give_40 (by decide) ?_
    exact rw_iret d_VG_give_42 rfl (Or.inr (Or.inl ⟨hok, c, rfl, rfl, rfl⟩))
  · rw [decide_eq_false c]
    refine rw_stk (st' := [.int 0]) rfl ?_
    refine rw_if_eq_t (tgt := 43) d_VG_give_37 (by decide) (rfl) ?_
    refine rw_aload_n d_VG_give_43 rfl (by first | exact mm_ref_r _ | exact mm_ref_n | exact mm_ref_o _) ?_
    refine rw_iconst (v := 0) d_VG_give_44 (by decide) ?_
    refine rw_put d_VG_give_45 (fP_VG_68 _) h0 (Nat.le_of_ble_eq_true rfl) (by first | rfl | assumption | decide) (by first | rfl | assumption | decide) ?_
    refine rw_aload_n d_VG_give_48 rfl (by first | exact mm_ref_r _ | exact mm_ref_n | exact mm_ref_o _) ?_
    refine rw_get d_VG_give_49 fF_VG_44 k0 rfl ?_
    refine rw_iload_n d_VG_give_52 rfl ?_
    refine rw_iload_n d_VG_give_53 rfl ?_
    refine rw_iload_n d_VG_give_54 rfl ?_
    refine rw_callV (kc := 0) (ks := 0) (rest := []) d_VG_give_55 (c_accept (kd := kd) (x := kx) (v := w) k4 (by omega) (by omega) (by omega)) mW_Desk_accept mL_VG_72 mI_Desk_accept mE_Desk_accept ⟨by decide, by decide⟩ d0' rfl rfl rfl rfl (Nat.le_of_ble_eq_true rfl) (fun r M1 sz1 hq => ?_)
    obtain ⟨rfl, rfl, a1, a2, a3⟩ := hq
    rw [h5] at a1 a2
    refine rw_stk (st' := [.ref sz]) rfl ?_
    have k0' := (a3 v (by omega) (by omega)).trans k0
    have p0' := (a3 (v + 330) (by omega) (by omega)).trans p0
    obtain ⟨cs2, arr2, an2, d2, -⟩ := id a2
    refine rw_astore d_VG_give_58 (by decide) (by first | exact mm_ref_r _ | exact mm_ref_n | exact mm_ref_o _) rfl ?_
    refine rw_aload_n d_VG_give_60 rfl (by first | exact mm_ref_r _ | exact mm_ref_n | exact mm_ref_o _) ?_
    refine rw_get d_VG_give_61 fF_VG_44 k0' rfl ?_
    refine rw_aload d_VG_give_64 rfl (by first | exact mm_ref_r _ | exact mm_ref_n | exact mm_ref_o _) ?_
    refine rw_aload_n d_VG_give_66 rfl (by first | exact mm_ref_r _ | exact mm_ref_n | exact mm_ref_o _) ?_
    refine rw_get d_VG_give_67 fF_VG_35 k0' rfl ?_
    refine rw_get d_VG_give_70 fF_VG_76 p0' rfl ?_
    refine rw_aload_n d_VG_give_73 rfl (by first | exact mm_ref_r _ | exact mm_ref_n | exact mm_ref_o _) ?_
    refine rw_get d_VG_give_74 fF_VG_35 k0' rfl ?_
    refine rw_get d_VG_give_77 fF_VG_79 p0' rfl ?_
    have hA1 : CmA M1 (va_up ca g sz) (va_up cm g (kd, kx, w)) (g + 1) := fun i hi => by
      by_cases z : i = g
      · subst z
        rw [va_up_self, va_up_self]
        exact ⟨hc, a1⟩
      · rw [va_up_ne _ _ z, va_up_ne _ _ z]
        have ap := k4.apart k2.2.1 (show i < g by omega)
        have := k2.2.1 i (by omega)
        exact ⟨this.1, (a3 _ (hca i (by omega)) (by omega)).trans this.2⟩
    have hP1 : PsP G M1 (va_up ca g sz) (va_up cm g (kd, kx, w)) (g + 1) E (v + 2) post := (k2.1.kept (fun q y1 y2 => a3 q (by omega) (by omega))).grow hm
    have hS1 : SyP G M1 (va_up ca g sz) (va_up cm g (kd, kx, w)) (g + 1) E (v + 1) (v + 2) post := by
      obtain ⟨-, -, s3, s4, s5, s6, s7, s8, s9⟩ := id k2
      exact ⟨hP1, hA1, (a3 _ (by omega) (by omega)).trans s3, s4, s5, s6, s7, by omega, s9⟩
    have hrq := c_request (l := l) (sz := sz + 1) (ld := eL E (y 0)) (ep := y 0) a2 hP1 (show g < g + 1 by omega) hA1 ((eL_lt E (y 0) hN7).imp id (fun z => by omega))
    rw [va_up_self] at hrq
    refine rw_callV (kc := 0) (ks := 0) (rest := []) d_VG_give_80 (hrq) mW_Desk_request mL_VG_82 mI_Desk_request mE_Desk_request ⟨by decide, by decide⟩ d2 rfl rfl rfl rfl (Nat.le_of_ble_eq_true rfl) (fun r M2 sz2 hq => ?_)
    obtain ⟨rfl, rfl, q1, q2⟩ := hq
    refine rw_stk (st' := []) rfl ?_
    have a1' := (q2 sz (by omega)).trans a1
    refine rw_aload d_VG_give_83 rfl (by first | exact mm_ref_r _ | exact mm_ref_n | exact mm_ref_o _) ?_
    refine rw_get d_VG_give_85 fF_VG_86 a1' rfl ?_
    have eg : ∀ z, z ≠ 3 → z ≠ 1 → z ≠ 40 + g % 8 → pGiv y g z = y z := fun z z1 z2 z3 => by
      rw [pGiv, pu_ne _ _ z3, pu_ne _ _ z2, pu_ne _ _ z1]
    have eg3 : pGiv y g 3 = 0 := by rw [pGiv, pu_ne _ _ (by omega), pu_ne _ _ (by omega), pu_self]
    have eg1 : pGiv y g 1 = g + 1 := by rw [pGiv, pu_ne _ _ (by omega), pu_self]
    refine rw_iret d_VG_give_88 rfl (Or.inr (Or.inr ⟨c, rfl, rfl, kd, kx, rfl, rfl, hc, ⟨?_, ⟨fk, ?_, k1b⟩, hS1.sent q1 q2, ?_, ?_, eg1, fun n hn => ?_, ?_, fun n hn => ?_, ?_, k10⟩, fun q y1 y2 => ?_⟩))
    · rw [q2 _ (by omega), k0']
      simp only [vgO]
      rw [eg3]
      rfl
    · rw [q2 _ (by omega), a3 _ (by omega) (by omega)]
      exact k1
    · have := (k3.kept (M' := M2) (fun q y1 y2 => (q2 q (by omega)).trans (a3 q (by omega) (by omega))))
      rw [e3 0 (by omega)] at this
      rw [eg 0 (by omega) (by omega) (by omega)]
      exact this.ext (fun n hn => by rw [e3 _ (by omega), eg _ (by omega) (by omega) (by omega)])
    · have := a2.kept (M' := M2) (fun q y1 y2 => q2 q (by omega))
      rw [eg1, eg 2 (by omega) (by omega) (by omega)]
      refine this.ext (fun j hj => ?_)
      by_cases z : j = g % 8
      · subst z
        rw [va_up_self, pGiv, pu_self]
      · rw [va_up_ne _ _ z, eg _ (by omega) (by omega) (by omega), e3 _ (by omega)]
    · exact ((k6 n hn).kept (fun q y1 y2 => (q2 q (by omega)).trans (a3 q (by omega) (by omega)))).grow
    · rw [eg 0 (by omega) (by omega) (by omega)]
      rw [e3 0 (by omega)] at k7
      exact k7
    · rw [eg _ (by omega) (by omega) (by omega)]
      have := k8 n hn
      rw [e3 _ (by omega)] at this
      exact this
    · rw [eg3]
      omega
    · simp only [vgN] at y2
      rw [q2 q (by omega), a3 q y1 (by omega), mup_ne _ _ (by omega)]
set_option maxRecDepth 100000 in
theorem c_give {M : mm_M} {k x w : Int32} (h : VgP G M ca cm g E v nd post y) (hsz : v + vgN E ≤ sz) (hca : ∀ i, i < g → ca i < sz) (hm : ∀ m, m ∈ post → m.1 = 3 → m.2.2.2.2.1 < g) : CT l G Y_VG_give ds_VG_give (rmA 3 1 4) [.ref v, .int k, .int x, .int w] M sz (GvQ G M sz ca cm g E v nd post y k x w) := by
  have no : ¬ gOk k x w → RW l G Y_VG_give (rmA 3 1 4) (mm_Z G (rmA 3 1 4) (GvQ G M sz ca cm g E v nd post y k x w)) 1 4 28 [(0, .ref v), (1, .int k), (2, .int x), (3, .int w)] [] M sz := fun z => by
    refine rw_iconst (v := (-1)) d_VG_give_28 (by decide) ?_
    exact rw_iret d_VG_give_29 rfl (Or.inl ⟨z, rfl, rfl, rfl⟩)
  refine CT.of (by decide) (Nat.le_of_ble_eq_true rfl) ?_
  refine rw_iload_n d_VG_give_0 rfl ?_
  refine rw_if_lt (tgt := 28) d_VG_give_1 (by decide) (fun q => ?_) (fun q => ?_)
  · refine no (fun ⟨kd, kx, e1, e2, e3⟩ => ?_)
    have := e3.1
    simp only at this
    rw [e1] at q
    exact absurd q (nI_pos (by omega))
  · obtain ⟨kd, hkd, rfl⟩ := nI_of q
    refine rw_iload_n d_VG_give_4 rfl ?_
    refine rw_iconst (v := 4) d_VG_give_5 (by decide) ?_
    by_cases c4 : kd ≤ 4
    · refine rw_icmp_gt_f (tgt := 28) d_VG_give_6 (by decide) (nI_nlt (b := kd) (a := 4) c4 (by omega)) ?_
      refine rw_iload_n d_VG_give_9 rfl ?_
      refine rw_callS (kc := 1) (ks := 4) (rest := []) d_VG_give_10 (c_isKey (k := x)) mW_VG_isKey mL_VG_60 mS_VG_isKey ⟨by decide, by decide⟩ rfl rfl (Nat.le_of_ble_eq_true rfl) (fun r M1 sz1 hq => ?_)
      obtain ⟨⟨c, rfl, hcc⟩, rfl, rfl⟩ := hq
      refine rw_stk (st' := [.int (bI c)]) rfl ?_
      cases c with
      | false =>
        refine rw_if_eq_t (tgt := 28) d_VG_give_13 (by decide) (rfl) ?_
        refine no (fun ⟨kd, kx, e1, e2, e3⟩ => ?_)
        exact absurd (hcc.mpr ⟨kx, e3.2.1, e2⟩) (by decide)
      | true =>
        obtain ⟨kx, hkx, rfl⟩ := hcc.mp rfl
        refine rw_if_eq_f (tgt := 28) d_VG_give_13 (by decide) (by decide) ?_
        refine rw_iload_n d_VG_give_16 rfl ?_
        refine rw_iconst (v := 4) d_VG_give_17 (by decide) ?_
        by_cases c5 : kd = 4
        · subst c5
          refine rw_icmp_ne_f (tgt := 30) d_VG_give_18 (by decide) (rfl) ?_
          refine rw_iload_n d_VG_give_21 rfl ?_
          refine rw_callS (kc := 1) (ks := 4) (rest := []) d_VG_give_22 (c_isKey (k := w)) mW_VG_isKey mL_VG_60 mS_VG_isKey ⟨by decide, by decide⟩ rfl rfl (Nat.le_of_ble_eq_true rfl) (fun r M1 sz1 hq => ?_)
          obtain ⟨⟨c, rfl, hcd⟩, rfl, rfl⟩ := hq
          refine rw_stk (st' := [.int (bI c)]) rfl ?_
          cases c with
          | false =>
            refine rw_if_ne_f (tgt := 30) d_VG_give_25 (by decide) (by decide) ?_
            refine no (fun ⟨kd2, kx2, e1, e2, e3⟩ => ?_)
            have h4 := e3.1
            simp only at h4
            rw [nI_eq (by omega) (by omega)] at e1
            obtain ⟨j, hj, ej⟩ := e3.2.2 (by simp only; omega)
            exact absurd (hcd.mpr ⟨j, hj, ej⟩) (by decide)
          | true =>
            refine rw_if_ne_t (tgt := 30) d_VG_give_25 (by decide) (by decide) ?_
            obtain ⟨j, hj, rfl⟩ := hcd.mp rfl
            exact give_tail h ⟨by simp only; omega, hkx, fun _ => ⟨j, hj, rfl⟩⟩ hsz hca hm
        · refine rw_icmp_ne_t (tgt := 30) d_VG_give_18 (by decide) (fun z => c5 ((nI_eq (a := kd) (b := 4) (by omega) (by omega)).mp z)) ?_
          exact give_tail h ⟨c4, hkx, fun z => absurd z c5⟩ hsz hca hm
    · refine rw_icmp_gt_t (tgt := 28) d_VG_give_6 (by decide) (nI_lt (a := 4) (b := kd) (by omega) hkd) ?_
      refine no (fun ⟨kd2, kx, e1, e2, e3⟩ => ?_)
      have := e3.1
      simp only at this
      rw [nI_eq (by omega) (by omega)] at e1
      omega
end GIVE
