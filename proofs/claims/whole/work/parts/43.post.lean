/-! The post: 65 messages, an order of 64, how many are under way. -/
abbrev msO (q : Nat) (kv : Value) (f t e s en dn nu an : Int32) (cv : Value) : va_E := .inr (3, [kv, .int f, .int t, .int e, .int s, .int en, .int dn, .int nu, .int an, cv, .ref (q + 1)])
/-- a message's cells, whatever they hold -/
def MsW (M : mm_M) (ca : Nat → Nat) (cm : Nat → pCm) (g q : Nat) : Prop := ∃ kv f t e s en dn nu an cv d b, M q = some (msO q kv f t e s en dn nu an cv) ∧ (cv = .null ∨ ∃ i, i < g ∧ cv = .ref (ca i)) ∧ CpP 0 M ca cm g (q + 1) d b
/-- its head is set: kind, from, to, epoch -/
def MsH (G : mm_G) (M : mm_M) (ca : Nat → Nat) (cm : Nat → pCm) (g q k f t e : Nat) : Prop := ∃ s en dn nu an cv d b, M q = some (msO q (.ref (gad G k)) (gI f) (gI t) (nI e) s en dn nu an cv) ∧ (cv = .null ∨ ∃ i, i < g ∧ cv = .ref (ca i)) ∧ CpP 0 M ca cm g (q + 1) d b
/-- it holds the message m -/
def MsP (G : mm_G) (M : mm_M) (ca : Nat → Nat) (cm : Nat → pCm) (g : Nat) (E : pE) (q : Nat) (m : pMsg) : Prop := ∃ s en dn nu an cv d b, M q = some (msO q (.ref (gad G m.1)) (gI m.2.1) (gI m.2.2.1) (nI m.2.2.2.1) s en dn nu an cv) ∧ (cv = .null ∨ ∃ i, i < g ∧ cv = .ref (ca i)) ∧ CpP 0 M ca cm g (q + 1) d b ∧
  (m.1 = 0 → s = nI (E.2.2 m.2.2.2.1)) ∧ (m.1 = 2 → m.2.2.2.2.1 < g ∧ cv = .ref (ca m.2.2.2.2.1)) ∧ (m.1 = 3 → nu = nI m.2.2.2.2.1 ∧ an = tAns cm m.2.2.2.2.1) ∧ (m.1 = 5 → en = nI m.2.2.2.2.1 ∧ dn = nI m.2.2.2.2.2) ∧
  (m.1 = 7 → CpP 1 M ca cm g (q + 1) m.2.2.2.2.2 m.2.2.2.2.1) ∧ (m.1 = 8 → CpP 2 M ca cm g (q + 1) m.2.2.2.2.2 m.2.2.2.2.1)
theorem MsW.kept {M M' : mm_M} {ca : Nat → Nat} {cm : Nat → pCm} {g q : Nat} (h : MsW M ca cm g q) (hq : ∀ x, q ≤ x → x < q + 5 → M' x = M x) : MsW M' ca cm g q := by
  obtain ⟨kv, f, t, e, s, en, dn, nu, an, cv, d, b, h1, h2, h3⟩ := h
  exact ⟨kv, f, t, e, s, en, dn, nu, an, cv, d, b, (hq _ (by omega) (by omega)).trans h1, h2, h3.kept (fun x y1 y2 => hq x (by omega) (by omega))⟩
theorem MsH.kept {G : mm_G} {M M' : mm_M} {ca : Nat → Nat} {cm : Nat → pCm} {g q k f t e : Nat} (h : MsH G M ca cm g q k f t e) (hq : ∀ x, q ≤ x → x < q + 5 → M' x = M x) : MsH G M' ca cm g q k f t e := by
  obtain ⟨s, en, dn, nu, an, cv, d, b, h1, h2, h3⟩ := h
  exact ⟨s, en, dn, nu, an, cv, d, b, (hq _ (by omega) (by omega)).trans h1, h2, h3.kept (fun x y1 y2 => hq x (by omega) (by omega))⟩
theorem MsP.kept {G : mm_G} {M M' : mm_M} {ca : Nat → Nat} {cm : Nat → pCm} {g : Nat} {E : pE} {q : Nat} {m : pMsg} (h : MsP G M ca cm g E q m) (hq : ∀ x, q ≤ x → x < q + 5 → M' x = M x) : MsP G M' ca cm g E q m := by
  obtain ⟨s, en, dn, nu, an, cv, d, b, h1, h2, h3, h4, h5, h6, h7, h8, h9⟩ := h
  have hc : ∀ x, q + 1 ≤ x → x < q + 1 + 4 → M' x = M x := fun x y1 y2 => hq x (by omega) (by omega)
  exact ⟨s, en, dn, nu, an, cv, d, b, (hq _ (by omega) (by omega)).trans h1, h2, h3.kept hc, h4, h5, h6, h7, fun z => (h8 z).kept hc, fun z => (h9 z).kept hc⟩
theorem MsP.w {G : mm_G} {M : mm_M} {ca : Nat → Nat} {cm : Nat → pCm} {g : Nat} {E : pE} {q : Nat} {m : pMsg} (h : MsP G M ca cm g E q m) : MsW M ca cm g q := by
  obtain ⟨s, en, dn, nu, an, cv, d, b, h1, h2, h3, -⟩ := h
  exact ⟨_, _, _, _, s, en, dn, nu, an, cv, d, b, h1, h2, h3⟩
theorem MsN.w {M : mm_M} {ca : Nat → Nat} {cm : Nat → pCm} {g q : Nat} (h : MsN M q) : MsW M ca cm g q := ⟨_, _, _, _, _, _, _, _, _, _, 0, 0, h.1, Or.inl rfl, (h.2.p ca cm g).le (by omega)⟩
def PsP (G : mm_G) (M : mm_M) (ca : Nat → Nat) (cm : Nat → pCm) (g : Nat) (E : pE) (p : Nat) (post : List pMsg) : Prop := ∃ (sl : Nat → Option Nat) (f : Nat → Int32) (ord : Nat → Nat), M p = some (.inr (4, [.ref (p + 1), .ref (p + 2), .int (nI post.length)])) ∧ M (p + 1) = some (aR 4 65 sl) ∧ M (p + 2) = some (aI 64 f) ∧
  (∀ i, i < 65 → sl i = some (p + 3 + 5 * i)) ∧ (∀ i, i < 64 → f i = nI (ord i) ∧ ord i < 64) ∧ (∀ i j, i < 64 → j < 64 → ord i = ord j → i = j) ∧ post.length ≤ 64 ∧ (∀ i, i < 65 → MsW M ca cm g (p + 3 + 5 * i)) ∧ ∀ i m, post[i]? = some m → MsP G M ca cm g E (p + 3 + 5 * (ord i)) m
theorem PsP.kept {G : mm_G} {M M' : mm_M} {ca : Nat → Nat} {cm : Nat → pCm} {g : Nat} {E : pE} {p : Nat} {post : List pMsg} (h : PsP G M ca cm g E p post) (hq : ∀ x, p ≤ x → x < p + 328 → M' x = M x) : PsP G M' ca cm g E p post := by
  obtain ⟨sl, f, ord, h1, h2, h3, h4, h5, h6, h7, h8, h9⟩ := h
  refine ⟨sl, f, ord, (hq _ (by omega) (by omega)).trans h1, (hq _ (by omega) (by omega)).trans h2, (hq _ (by omega) (by omega)).trans h3, h4, h5, h6, h7, fun i hi => (h8 i hi).kept (fun x y1 y2 => hq x (by omega) (by omega)), fun i m hm => ?_⟩
  have hl : i < post.length := (List.getElem?_eq_some_iff.mp hm).1
  have := (h5 i (by omega)).2
  exact (h9 i m hm).kept (fun x y1 y2 => hq x (by omega) (by omega))
/-- which place comes to place z where place i is taken out of L -/
def pSrc (i L z : Nat) : Nat := if z < i then z else if z < L - 1 then z + 1 else if z = L - 1 then i else z
theorem pSrc_inj {i L z w : Nat} (hi : i < L) (h : pSrc i L z = pSrc i L w) : z = w := by
  unfold pSrc at h
  (repeat' split at h) <;> omega
theorem pSrc_lt {i L z : Nat} (hi : i < L) (hL : L ≤ 64) (hz : z < 64) : pSrc i L z < 64 := by
  unfold pSrc
  (repeat' split) <;> omega
section POST
variable {l : Launch} {G : mm_G} {sz : Nat} {ca : Nat → Nat} {cm : Nat → pCm} {g : Nat} {E : pE}
def SeQ (G : mm_G) (M : mm_M) (sz : Nat) (ca : Nat → Nat) (cm : Nat → pCm) (g : Nat) (E : pE) (p : Nat) (post : List pMsg) (k f t e : Nat) : Option Value → mm_M → Nat → Prop := fun r M' sz' => sz' = sz ∧ Fr M M' p 328 ∧ ∃ j : Nat, j < 65 ∧ r = some (.ref (p + 3 + 5 * j)) ∧ MsH G M' ca cm g (p + 3 + 5 * j) k f t e ∧ ∀ M2 m, Fr M' M2 (p + 3 + 5 * j) 5 → MsP G M2 ca cm g E (p + 3 + 5 * j) m → PsP G M2 ca cm g E p (pSend post [m])
/-- the head's four stores -/
theorem send_tail {M M1 : mm_M} {p j k f t e : Nat} {post : List pMsg} {lv0 : Value} (hj : j < 65) (hW : MsW M1 ca cm g (p + 3 + 5 * j)) (hF : Fr M M1 p 328) (hcont : ∀ M2 m, Fr M1 M2 (p + 3 + 5 * j) 5 → MsP G M2 ca cm g E (p + 3 + 5 * j) m → PsP G M2 ca cm g E p (pSend post [m])) :
    RW l G Y_Post_send (rm 1) (mm_Z G (rm 1) (SeQ G M sz ca cm g E p post k f t e)) 0 0 44 [(0, .ref p), (1, .ref (gad G k)), (2, .int (gI f)), (3, .int (gI t)), (4, .int (nI e)), (5, .ref (p + 3 + 5 * j))] [] M1 sz := by
  obtain ⟨kv, f0, t0, e0, s, en, dn, nu, an, cv, d, b, h1, h2, h3⟩ := hW
  refine rw_aload d_Post_send_44 rfl (by first | exact mm_ref_r _ | exact mm_ref_n | exact mm_ref_o _) ?_
  refine rw_aload_n d_Post_send_46 rfl (by first | exact mm_ref_r _ | exact mm_ref_n | exact mm_ref_o _) ?_
  refine rw_put d_Post_send_47 (fP_Post_26 _) h1 (Nat.le_of_ble_eq_true rfl) (by first | rfl | assumption | decide) (by first | rfl | decide) ?_
  refine rw_aload d_Post_send_50 rfl (by first | exact mm_ref_r _ | exact mm_ref_n | exact mm_ref_o _) ?_
  refine rw_iload_n d_Post_send_52 rfl ?_
  refine rw_put d_Post_send_53 (fP_Post_30 _) (mup_self _ _ _) (Nat.le_of_ble_eq_true rfl) (by first | rfl | assumption | decide) (by first | rfl | decide) ?_
  refine rw_aload d_Post_send_56 rfl (by first | exact mm_ref_r _ | exact mm_ref_n | exact mm_ref_o _) ?_
  refine rw_iload_n d_Post_send_58 rfl ?_
  refine rw_put d_Post_send_59 (fP_Post_33 _) (mup_self _ _ _) (Nat.le_of_ble_eq_true rfl) (by first | rfl | assumption | decide) (by first | rfl | decide) ?_
  refine rw_aload d_Post_send_62 rfl (by first | exact mm_ref_r _ | exact mm_ref_n | exact mm_ref_o _) ?_
  refine rw_iload d_Post_send_64 rfl ?_
  refine rw_put d_Post_send_66 (fP_Post_36 _) (mup_self _ _ _) (Nat.le_of_ble_eq_true rfl) (by first | rfl | assumption | decide) (by first | rfl | decide) ?_
  refine rw_aload d_Post_send_69 rfl (by first | exact mm_ref_r _ | exact mm_ref_n | exact mm_ref_o _) ?_
  refine rw_aret d_Post_send_71 rfl (mm_ref_r _) ⟨rfl, ?_, j, hj, rfl, ⟨s, en, dn, nu, an, cv, d, b, ?_, h2, ?_⟩, fun M2 m y1 y2 => ?_⟩
  · exact Fr.mup (Fr.mup (Fr.mup (Fr.mup hF (by omega) (by omega)) (by omega) (by omega)) (by omega) (by omega)) (by omega) (by omega)
  · rw [mup_self]
    rfl
  · exact h3.kept (fun q y1 y2 => by rw [mup_ne _ _ (by omega), mup_ne _ _ (by omega), mup_ne _ _ (by omega), mup_ne _ _ (by omega)])
  · refine hcont M2 m (fun q hq => ?_) y2
    rw [y1 q hq, mup_ne _ _ (by omega), mup_ne _ _ (by omega), mup_ne _ _ (by omega), mup_ne _ _ (by omega)]
theorem c_send {M : mm_M} {p k f t e : Nat} {post : List pMsg} (hP : PsP G M ca cm g E p post) : CT l G Y_Post_send ds_Post_send (rm 1) [.ref p, .ref (gad G k), .int (gI f), .int (gI t), .int (nI e)] M sz (SeQ G M sz ca cm g E p post k f t e) := by
  obtain ⟨sl, fo, ord, h1, h2, h3, h4, h5, h6, h7, h8, h9⟩ := hP
  refine CT.of (by decide) (Nat.le_of_ble_eq_true rfl) ?_
  refine rw_aload_n d_Post_send_0 rfl (by first | exact mm_ref_r _ | exact mm_ref_n | exact mm_ref_o _) ?_
  refine rw_get d_Post_send_1 fF_Post_11 h1 rfl ?_
  refine rw_bipush (v := 64) d_Post_send_4 (by decide) ?_
  refine rw_aald d_Post_send_6 h2 (by decide) rfl (vp_in_nI (n := 64) (by omega) (by omega)) ?_
  rw [show (64 : Int32).toNatClampNeg = 64 from rfl, h4 64 (by omega)]
  refine rw_stk (st' := [.ref (p + 3 + 5 * 64)]) rfl ?_
  refine rw_astore d_Post_send_7 (by decide) (by first | exact mm_ref_r _ | exact mm_ref_n | exact mm_ref_o _) rfl ?_
  refine rw_aload_n d_Post_send_9 rfl (by first | exact mm_ref_r _ | exact mm_ref_n | exact mm_ref_o _) ?_
  refine rw_get d_Post_send_10 fF_Post_22 h1 rfl ?_
  refine rw_bipush (v := 64) d_Post_send_13 (by decide) ?_
  by_cases q : 64 ≤ post.length
  · refine rw_icmp_ge_t (tgt := 44) d_Post_send_15 (by decide) (nI_le (a := 64) q (by omega)) ?_
    refine rw_lv (lv' := [(0, .ref p), (1, .ref (gad G k)), (2, .int (gI f)), (3, .int (gI t)), (4, .int (nI e)), (5, .ref (p + 3 + 5 * 64))]) (by intro q hq; simp at hq; rcases hq with rfl | rfl | rfl | rfl | rfl | rfl <;> rfl) ?_
    refine send_tail (lv0 := .null) (by omega) (h8 64 (by omega)) Fr.rf (fun M2 m y1 y2 => ?_)
    have e : pSend post [m] = post := by
      unfold pSend
      rw [List.take_append_of_le_length (by omega), List.take_of_length_le (by omega)]
    rw [e]
    refine ⟨sl, fo, ord, (y1 _ (by omega)).trans h1, (y1 _ (by omega)).trans h2, (y1 _ (by omega)).trans h3, h4, h5, h6, h7, fun i hi => ?_, fun i m' hm => ?_⟩
    · by_cases z : i = 64
      · subst z
        exact y2.w
      · exact (h8 i hi).kept (fun x z1 z2 => y1 x (by omega))
    · have hl : i < post.length := (List.getElem?_eq_some_iff.mp hm).1
      have := (h5 i (by omega)).2
      exact (h9 i m' hm).kept (fun x z1 z2 => y1 x (by omega))
  · have hl : post.length < 64 := by omega
    have ho := h5 post.length hl
    refine rw_icmp_ge_f (tgt := 44) d_Post_send_15 (by decide) (nI_ge (b := 64) hl (by omega)) ?_
    refine rw_aload_n d_Post_send_18 rfl (by first | exact mm_ref_r _ | exact mm_ref_n | exact mm_ref_o _) ?_
    refine rw_get d_Post_send_19 fF_Post_11 h1 rfl ?_
    refine rw_aload_n d_Post_send_22 rfl (by first | exact mm_ref_r _ | exact mm_ref_n | exact mm_ref_o _) ?_
    refine rw_get d_Post_send_23 fF_Post_17 h1 rfl ?_
    refine rw_aload_n d_Post_send_26 rfl (by first | exact mm_ref_r _ | exact mm_ref_n | exact mm_ref_o _) ?_
    refine rw_get d_Post_send_27 fF_Post_22 h1 rfl ?_
    refine rw_iald d_Post_send_30 h3 (vp_in_nI hl (by omega)) ?_
    rw [nI_c (by omega), ho.1]
    refine rw_aald d_Post_send_31 h2 (by decide) rfl (vp_in_nI (by omega) (by omega)) ?_
    rw [nI_c (by omega), h4 _ (by omega)]
    refine rw_stk (st' := [.ref (p + 3 + 5 * (ord post.length))]) rfl ?_
    refine rw_astore d_Post_send_32 (by decide) (by first | exact mm_ref_r _ | exact mm_ref_n | exact mm_ref_o _) rfl ?_
    refine rw_aload_n d_Post_send_34 rfl (by first | exact mm_ref_r _ | exact mm_ref_n | exact mm_ref_o _) ?_
    refine rw_dup d_Post_send_35 rfl ?_
    refine rw_get d_Post_send_36 fF_Post_22 h1 rfl ?_
    refine rw_iconst (v := 1) d_Post_send_39 (by decide) ?_
    refine rw_iadd d_Post_send_40 ?_
    refine rw_put d_Post_send_41 (fP_Post_22 _) h1 (Nat.le_of_ble_eq_true rfl) (by first | rfl | assumption | decide) (by first | rfl | decide) ?_
    refine rw_lv (lv' := [(0, .ref p), (1, .ref (gad G k)), (2, .int (gI f)), (3, .int (gI t)), (4, .int (nI e)), (5, .ref (p + 3 + 5 * (ord post.length)))]) (by intro q hq; simp at hq; rcases hq with rfl | rfl | rfl | rfl | rfl | rfl <;> rfl) ?_
    refine send_tail (lv0 := .null) (by omega) ((h8 _ (by omega)).kept (fun x z1 z2 => mup_ne _ _ (by omega))) (Fr.mup Fr.rf (by omega) (by omega)) (fun M2 m y1 y2 => ?_)
    have e : pSend post [m] = post ++ [m] := by
      unfold pSend
      rw [List.take_of_length_le (by simp; omega)]
    rw [e]
    refine ⟨sl, fo, ord, ?_, (y1 _ (by omega)).trans ((mup_ne _ _ (by omega)).trans h2), (y1 _ (by omega)).trans ((mup_ne _ _ (by omega)).trans h3), h4, h5, h6, by simp; omega, fun i hi => ?_, fun i m' hm => ?_⟩
    · rw [y1 _ (by omega), mup_self, List.length_append]
      show some (Sum.inr (4, [_, _, Value.int (nI post.length + 1)])) = _
      rw [nI_1]
      rfl
    · by_cases z : i = ord post.length
      · subst z
        exact y2.w
      · exact (h8 i hi).kept (fun x z1 z2 => (y1 x (by omega)).trans (mup_ne _ _ (by omega)))
    · have hl2 : i < (post ++ [m]).length := (List.getElem?_eq_some_iff.mp hm).1
      rw [List.length_append] at hl2
      simp only [List.length_cons, List.length_nil] at hl2
      by_cases z : i = post.length
      · subst z
        rw [List.getElem?_append_right (by omega), Nat.sub_self] at hm
        cases hm
        exact y2
      · rw [List.getElem?_append_left (by omega)] at hm
        have hne : ord i ≠ ord post.length := fun w => z (h6 i post.length (by omega) (by omega) w)
        have := (h5 i (by omega)).2
        exact (h9 i m' hm).kept (fun x z1 z2 => (y1 x (by omega)).trans (mup_ne _ _ (by omega)))
theorem c_look {M : mm_M} {p i : Nat} {post : List pMsg} {m : pMsg} (hP : PsP G M ca cm g E p post) (hm : post[i]? = some m) : CT l G Y_Post_look ds_Post_look (rm 1) [.ref p, .int (nI i)] M sz (fun r M' sz' => M' = M ∧ sz' = sz ∧ ∃ j : Nat, j < 64 ∧ r = some (.ref (p + 3 + 5 * j)) ∧ MsP G M ca cm g E (p + 3 + 5 * j) m) := by
  obtain ⟨sl, fo, ord, h1, h2, h3, h4, h5, h6, h7, h8, h9⟩ := hP
  have hl : i < post.length := (List.getElem?_eq_some_iff.mp hm).1
  have ho := h5 i (by omega)
  refine CT.of (by decide) (Nat.le_of_ble_eq_true rfl) ?_
  refine rw_iload_n d_Post_look_0 rfl ?_
  refine rw_if_lt_f (tgt := 26) d_Post_look_1 (by decide) (nI_pos (by omega)) ?_
  refine rw_iload_n d_Post_look_4 rfl ?_
  refine rw_aload_n d_Post_look_5 rfl (by first | exact mm_ref_r _ | exact mm_ref_n | exact mm_ref_o _) ?_
  refine rw_get d_Post_look_6 fF_Post_22 h1 rfl ?_
  refine rw_icmp_ge_f (tgt := 26) d_Post_look_9 (by decide) (nI_ge hl (by omega)) ?_
  refine rw_aload_n d_Post_look_12 rfl (by first | exact mm_ref_r _ | exact mm_ref_n | exact mm_ref_o _) ?_
  refine rw_get d_Post_look_13 fF_Post_11 h1 rfl ?_
  refine rw_aload_n d_Post_look_16 rfl (by first | exact mm_ref_r _ | exact mm_ref_n | exact mm_ref_o _) ?_
  refine rw_get d_Post_look_17 fF_Post_17 h1 rfl ?_
  refine rw_iload_n d_Post_look_20 rfl ?_
  refine rw_iald d_Post_look_21 h3 (vp_in_nI (by omega) (by omega)) ?_
  rw [nI_c (by omega), ho.1]
  refine rw_aald d_Post_look_22 h2 (by decide) rfl (vp_in_nI (by omega) (by omega)) ?_
  rw [nI_c (by omega), h4 _ (by omega)]
  refine rw_stk (st' := [.ref (p + 3 + 5 * (ord i))]) rfl ?_
  refine rw_goto (tgt := 33) d_Post_look_23 (by decide) ?_
  exact rw_aret d_Post_look_33 rfl (mm_ref_r _) ⟨rfl, rfl, ord i, ho.2, rfl, h9 i m hm⟩
theorem c_remove {M : mm_M} {p i : Nat} {post : List pMsg} (hP : PsP G M ca cm g E p post) (hl : i < post.length) : CT l G Y_Post_remove ds_Post_remove (rm 1) [.ref p, .int (nI i)] M sz (fun r M' sz' => r = none ∧ sz' = sz ∧ PsP G M' ca cm g E p (post.eraseIdx i) ∧ Fr M M' p 328) := by
  obtain ⟨sl, fo, ord, h1, h2, h3, h4, h5, h6, h7, h8, h9⟩ := hP
  refine CT.of (by decide) (Nat.le_of_ble_eq_true rfl) ?_
  refine rw_iload_n d_Post_remove_0 rfl ?_
  refine rw_if_lt_f (tgt := 12) d_Post_remove_1 (by decide) (nI_pos (by omega)) ?_
  refine rw_iload_n d_Post_remove_4 rfl ?_
  refine rw_aload_n d_Post_remove_5 rfl (by first | exact mm_ref_r _ | exact mm_ref_n | exact mm_ref_o _) ?_
  refine rw_get d_Post_remove_6 fF_Post_22 h1 rfl ?_
  refine rw_icmp_lt_t (tgt := 13) d_Post_remove_9 (by decide) (nI_lt hl (by omega)) ?_
  refine rw_aload_n d_Post_remove_13 rfl (by first | exact mm_ref_r _ | exact mm_ref_n | exact mm_ref_o _) ?_
  refine rw_get d_Post_remove_14 fF_Post_17 h1 rfl ?_
  refine rw_iload_n d_Post_remove_17 rfl ?_
  refine rw_iald d_Post_remove_18 h3 (vp_in_nI (by omega) (by omega)) ?_
  rw [nI_c (by omega), (h5 i (by omega)).1]
  refine rw_istore_n d_Post_remove_19 (by decide) rfl ?_
  refine rw_aload_n d_Post_remove_20 rfl (by first | exact mm_ref_r _ | exact mm_ref_n | exact mm_ref_o _) ?_
  refine rw_dup d_Post_remove_21 rfl ?_
  refine rw_get d_Post_remove_22 fF_Post_22 h1 rfl ?_
  refine rw_iconst (v := 1) d_Post_remove_25 (by decide) ?_
  refine rw_isub d_Post_remove_26 ?_
  rw [show nI post.length - 1 = nI (post.length - 1) from nI_sub (b := 1) (by omega)]
  refine rw_put d_Post_remove_27 (fP_Post_22 _) h1 (Nat.le_of_ble_eq_true rfl) (by first | rfl | assumption | decide) (by first | rfl | decide) ?_
  refine rw_aload_n d_Post_remove_30 rfl (by first | exact mm_ref_r _ | exact mm_ref_n | exact mm_ref_o _) ?_
  refine rw_get d_Post_remove_31 fF_Post_17 (mup_self _ _ _) rfl ?_
  refine rw_iload_n d_Post_remove_34 rfl ?_
  refine rw_iconst (v := 1) d_Post_remove_35 (by decide) ?_
  refine rw_iadd d_Post_remove_36 ?_
  rw [nI_1]
  refine rw_aload_n d_Post_remove_37 rfl (by first | exact mm_ref_r _ | exact mm_ref_n | exact mm_ref_o _) ?_
  refine rw_get d_Post_remove_38 fF_Post_17 (mup_self _ _ _) rfl ?_
  refine rw_iload_n d_Post_remove_41 rfl ?_
  refine rw_aload_n d_Post_remove_42 rfl (by first | exact mm_ref_r _ | exact mm_ref_n | exact mm_ref_o _) ?_
  refine rw_get d_Post_remove_43 fF_Post_22 (mup_self _ _ _) rfl ?_
  refine rw_iload_n d_Post_remove_46 rfl ?_
  refine rw_isub d_Post_remove_47 ?_
  rw [nI_sub (show i ≤ post.length - 1 by omega)]
  refine rw_acopy d_Post_remove_48 mL_Post_39 (mup_get (by omega) h3) (mup_get (by omega) h3) (nI_pos (by omega)) (nI_pos (by omega)) (nI_pos (by omega)) (by rw [nI_c (by omega), nI_c (by omega)]; omega) (by rw [nI_c (by omega), nI_c (by omega)]; omega) (by decide) (Nat.le_of_ble_eq_true rfl) ?_
  rw [nI_c (by omega), nI_c (by omega), nI_c (by omega)]
  refine rw_aload_n d_Post_remove_51 rfl (by first | exact mm_ref_r _ | exact mm_ref_n | exact mm_ref_o _) ?_
  refine rw_get d_Post_remove_52 fF_Post_17 (mup_get (by omega) (mup_self _ _ _)) rfl ?_
  refine rw_aload_n d_Post_remove_55 rfl (by first | exact mm_ref_r _ | exact mm_ref_n | exact mm_ref_o _) ?_
  refine rw_get d_Post_remove_56 fF_Post_22 (mup_get (by omega) (mup_self _ _ _)) rfl ?_
  refine rw_iload_n d_Post_remove_59 rfl ?_
  refine rw_iast d_Post_remove_60 (mup_self _ _ _) (vp_in_nI (by omega) (by omega)) ?_
  rw [nI_c (by omega)]
  have hlen : (post.eraseIdx i).length = post.length - 1 := by rw [List.length_eraseIdx, if_pos hl]
  refine rw_vret d_Post_remove_61 rfl ⟨rfl, rfl, ⟨sl, _, fun z => ord (pSrc i post.length z), ?_, ?_, mup_self _ _ _, h4, fun z hz => ?_, fun z w hz hw hzw => ?_, by omega, fun z hz => (h8 z hz).kept (fun x y1 y2 => ?_), fun z m hm => ?_⟩, ?_⟩
  · rw [mup_ne _ _ (by omega), mup_ne _ _ (by omega), mup_self, hlen]
    rfl
  · rw [mup_ne _ _ (by omega), mup_ne _ _ (by omega), mup_ne _ _ (by omega)]
    exact h2
  · simp only [upd, va_cpy, pSrc]
    by_cases y1 : z < i
    · rw [if_neg (by omega), if_neg (by omega), if_pos y1]
      exact h5 z hz
    · rw [if_neg y1]
      by_cases y2 : z < post.length - 1
      · rw [if_neg (by omega), if_pos (by omega), if_pos y2, show i + 1 + (z - i) = z + 1 by omega]
        exact h5 (z + 1) (by omega)
      · rw [if_neg y2]
        by_cases y3 : z = post.length - 1
        · rw [if_pos y3, if_pos y3]
          exact ⟨rfl, (h5 i (by omega)).2⟩
        · rw [if_neg y3, if_neg (by omega), if_neg y3]
          exact h5 z hz
  · exact pSrc_inj hl (h6 _ _ (pSrc_lt hl h7 hz) (pSrc_lt hl h7 hw) hzw)
  · rw [mup_ne _ _ (by omega), mup_ne _ _ (by omega), mup_ne _ _ (by omega)]
  · have hzl : z < (post.eraseIdx i).length := (List.getElem?_eq_some_iff.mp hm).1
    have hk : ∀ o, o < 64 → ∀ m, MsP G M ca cm g E (p + 3 + 5 * o) m → MsP G (mup (mup (mup M p (.inr (4, [.ref (p + 1), .ref (p + 2), .int (nI (post.length - 1))]))) (p + 2) (.inl (0, 64, .inl (va_cpy fo fo (i + 1) i (post.length - 1 - i))))) (p + 2) (.inl (0, 64, .inl (upd (va_cpy fo fo (i + 1) i (post.length - 1 - i)) (post.length - 1) (nI (ord i)))))) ca cm g E (p + 3 + 5 * o) m := fun o ho m hm => hm.kept (fun x y1 y2 => by rw [mup_ne _ _ (by omega), mup_ne _ _ (by omega), mup_ne _ _ (by omega)])
    rw [List.getElem?_eraseIdx] at hm
    show MsP G _ ca cm g E (p + 3 + 5 * ord (pSrc i post.length z)) m
    by_cases y1 : z < i
    · rw [if_pos y1] at hm
      rw [show pSrc i post.length z = z by rw [pSrc, if_pos y1]]
      exact hk _ (h5 z (by omega)).2 m (h9 z m hm)
    · rw [if_neg y1] at hm
      rw [show pSrc i post.length z = z + 1 by rw [pSrc, if_neg y1, if_pos (by omega)]]
      exact hk _ (h5 (z + 1) (by omega)).2 m (h9 (z + 1) m hm)
  · exact Fr.mup (Fr.mup (Fr.mup Fr.rf (by omega) (by omega)) (by omega) (by omega)) (by omega) (by omega)
end POST
