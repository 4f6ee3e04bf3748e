/-! Settle's invariant: ticks; its beginning; silence. -/
section ISS
variable {E : pE} {e g : Nat} {nd : Nat → pN} {post : List pMsg} {rep : Nat → Nat → Nat} {c n : Nat} {m : pMsg} {x x' : pN} {y : pN}
theorem sStep.rf : sStep E e nd nd := ⟨id, fun _ _ z => z, fun _ _ _ _ => ⟨fun _ => ⟨Nat.le_refl _, Nat.le_refl _⟩, fun _ => Nat.le_refl _, fun _ => rfl⟩⟩
theorem sStep.trans {a b c : Nat → pN} (h : sStep E e a b) (k : sStep E e b c) : sStep E e a c := by
  refine ⟨fun z => k.1 (h.1 z), fun m hm z => k.2.1 m hm (h.2.1 m hm z), fun m hm hl z => ?_⟩
  obtain ⟨a1, a2, a3⟩ := h.2.2 m hm hl z
  obtain ⟨b1, b2, b3⟩ := k.2.2 m hm hl (h.2.1 m hm z)
  refine ⟨fun q => ?_, fun q => ?_, fun q => ?_⟩
  · have := a1 q; have := b1 q; omega
  · have := a2 q; have := b2 q; omega
  · rw [b3 q]
    exact a3 (fun w => q (k.1 w))
theorem pWn_zero (E : pE) (nd : Nat → pN) : pWn E nd 0 = nd := by
  funext n
  unfold pWn
  rw [if_neg (by omega)]
theorem IS.works (hE : eOk E) (hJ : JJ E e g nd post rep c) (he : e < 1000000) (hg : g ≤ 512) (hu : ∀ n, n < eN E → nd n 0 = 1) (hN : sN E e nd) : ∀ k, k ≤ eN E → sStep E e nd (pWn E nd k) ∧ sN E e (pWn E nd k) ∧ (∀ a ∈ pWk E nd k, sM E e (pWn E nd k) a) ∧ ∀ n, n < eN E → pWn E nd k n 0 = 1 := by
  intro k
  induction k with
  | zero =>
    intro _
    rw [pWn_zero]
    exact ⟨sStep.rf, hN, (fun a ha => by cases ha), hu⟩
  | succ k ih =>
    intro hk
    obtain ⟨i1, i2, i3, i4⟩ := ih (by omega)
    obtain ⟨rep', c', -, hJ'⟩ := hJ.works hE he hg k (by omega)
    have e0 : pWn E nd k k = nd k := by
      unfold pWn
      rw [if_neg (by omega)]
    obtain ⟨w1, w2, w3, w4⟩ := work_step (n := k) hE (by omega) (i4 k (by omega)) i2
    rw [e0] at w1 w2 w3 w4
    rw [pWn_suc, pWk]
    refine ⟨i1.trans w1, w2, fun a ha => ?_, fun n hn => ?_⟩
    · rcases List.mem_append.mp ha with z | z
      · exact (i3 a z).step w1 (hJ'.2.2 a (List.mem_append.mpr (Or.inr z))).1
      · exact w3 a z
    · by_cases q : n = k
      · subst q; rw [va_up_self]; exact w4
      · rw [va_up_ne _ _ q]; exact i4 n hn
theorem IS.tick {s : pSt} (hE : eOk E) (hJ : JS E s) (h : IS E e s) : IS E e (pTick E s) := by
  obtain ⟨nd, post, y⟩ := s
  obtain ⟨h1, h2, h3, h4, h5⟩ := h
  obtain ⟨y1, y2, -, -, -, rep, c, hJ, -⟩ := hJ
  have h1 : y 0 = e := h1
  have hJ : JJ E (y 0) (y 1) nd post rep c := hJ
  have y1 : y 0 < 1000000 := y1
  rw [h1] at hJ y1
  obtain ⟨i1, i2, i3, i4⟩ := IS.works hE hJ y1 y2 h2 h4 (eN E) (Nat.le_refl _)
  refine ⟨h1, i4, fun n hn z => i1.2.1 n hn (h3 n hn z), i2, fun a ha => ?_⟩
  rcases mem_send ha with z | z
  · rcases mem_send z with z | z
    · rcases mem_send z with z | z
      · exact (h5 a z).step i1 (hJ.2.2 a z).1
      · obtain ⟨k, hk, -, rfl⟩ := mem_proc _ z
        exact fun _ => ⟨(fun z => by cases z), (fun z => by cases z), (fun z => by cases z), (fun z => by cases z), (fun z => by cases z), (fun z => by cases z)⟩
    · obtain ⟨-, k, hk, -, rfl⟩ := mem_reqs _ z
      exact fun _ => ⟨(fun z => by cases z), (fun z => by cases z), (fun z => by cases z), (fun z => by cases z), (fun z => by cases z), (fun z => by cases z)⟩
  · exact i3 a z
/-- the beginning of settle -/
theorem IS.zero (hE : eOk E) (hJ : JS E (nd, post, y)) : IS E (y 0 + 1) (pUps nd (eN E), pSend post (pProc (y 0 + 1) (fun n => y (20 + n)) (eN E)), pu y 0 (y 0 + 1)) := by
  obtain ⟨y1, y2, y3, y4, y5, rep, c, hJ, -⟩ := hJ
  have hJ : JJ E (y 0) (y 1) nd post rep c := hJ
  have hN7 := hE.2.1
  have h4 : ∀ n, pUps nd (eN E) n 4 = nd n 4 := fun n => by
    unfold pUps
    split
    · exact pu_ne _ _ (by omega)
    · rfl
  refine ⟨pu_self y 0 (y 0 + 1), fun n hn => ?_, fun n hn z => ?_, fun z => ?_, fun a ha => ?_⟩
  · show pUps nd (eN E) n 0 = 1
    unfold pUps
    rw [if_pos hn, pu_self]
  · have z : pu y 0 (y 0 + 1) (20 + n) = y 0 + 1 := z
    rw [pu_ne _ _ (by omega)] at z
    have : y (20 + n) ≤ y 0 := y5 n (by omega)
    omega
  · have z : pUps nd (eN E) (eL E (y 0 + 1)) 4 = y 0 + 1 := z
    rw [h4] at z
    have := hJ.1.2.2.2.2.1 (eL E (y 0 + 1))
    omega
  · rcases mem_send ha with z | z
    · intro w
      have := hJ.1.2.2.2.2.2 a z
      omega
    · obtain ⟨k, hk, -, rfl⟩ := mem_proc _ z
      exact fun _ => ⟨(fun z => by cases z), (fun z => by cases z), (fun z => by cases z), (fun z => by cases z), (fun z => by cases z), (fun z => by cases z)⟩
theorem IS.go {s : pSt} {i : Nat} (hE : eOk E) (hJ : JS E s) (h : IS E e s) (hm : s.2.1[i]? = some m) : IS E e (pGo E s i m) :=
  (h.arr hE hJ (List.mem_of_getElem? hm)).sub (fun _ ha => List.mem_of_mem_eraseIdx ha)
theorem JS.go {s : pSt} {i : Nat} (hE : eOk E) (hJ : JS E s) (hm : s.2.1[i]? = some m) : JS E (pGo E s i m) :=
  (hJ.arr hE (List.mem_of_getElem? hm)).sub (fun _ ha => List.mem_of_mem_eraseIdx ha)
/-- what holds over each arrival holds over all of them -/
theorem pBA_keep {I : pSt → Prop} (hI : ∀ (s : pSt) (a : pMsg) (r : List pMsg), s.2.1 = a :: r → I s → I (pGo E s 0 a)) : ∀ (f : Nat) (s : pSt), I s → I (pBA E f s) := by
  intro f
  induction f with
  | zero => intro s h; exact h
  | succ f ih =>
    intro s h
    obtain ⟨nd, post, y⟩ := s
    cases post with
    | nil => exact h
    | cons a r => exact ih _ (hI _ a r rfl h)
theorem agr_ge {x : pN} {s v : Nat} (hv : v ≤ 512) : ∀ k, (∀ m, m < k → s.testBit m = true → x (20 + m) = 1 ∧ v ≤ x (30 + m)) → v ≤ pAgr s k x := by
  intro k
  induction k with
  | zero => intro _; exact hv
  | succ k ih =>
    intro h
    have := ih (fun m hm => h m (by omega))
    rw [pAgr]
    by_cases q : s.testBit k = true
    · obtain ⟨a, b⟩ := h k (by omega) q
      rw [if_pos q, if_pos a]
      omega
    · rw [if_neg q]
      exact this
theorem send_nil {p a : List pMsg} (h : pSend p a = []) : p = [] ∧ a = [] := by
  unfold pSend at h
  cases p with
  | nil =>
    cases a with
    | nil => exact ⟨rfl, rfl⟩
    | cons b r => simp at h
  | cons b r => simp at h
theorem proc_nil {ep : Nat} {hd : Nat → Nat} : ∀ k, pProc ep hd k = [] → ∀ n, n < k → ep ≤ hd n := by
  intro k
  induction k with
  | zero => intro _ n hn; omega
  | succ k ih =>
    intro h n hn
    rw [pProc] at h
    obtain ⟨h1, h2⟩ := List.append_eq_nil_iff.mp h
    by_cases q : n = k
    · subst q
      by_cases w : hd n < ep
      · rw [if_pos w] at h2; cases h2
      · omega
    · exact ih h1 n (by omega)
theorem wk_nil : ∀ k, pWk E nd k = [] → ∀ n, n < k → (pWork E n (nd n)).2 = [] := by
  intro k
  induction k with
  | zero => intro _ n hn; omega
  | succ k ih =>
    intro h n hn
    rw [pWk] at h
    obtain ⟨h1, h2⟩ := List.append_eq_nil_iff.mp h
    by_cases q : n = k
    · subst q; exact h2
    · exact ih h1 n (by omega)
theorem size_all {x : pN} : ∀ k, (∀ m, m < k → x (20 + m) = 1) → pSize k x = k := by
  intro k
  induction k with
  | zero => intro _; rfl
  | succ k ih =>
    intro h
    rw [pSize, ih (fun m hm => h m (by omega)), if_pos (h k (by omega))]
theorem flat_nil {k : Nat} {f : Nat → List pMsg} (h : (List.range k).flatMap f = []) : ∀ m, m < k → f m = [] := by
  intro m hm
  rw [List.flatMap_eq_nil_iff] at h
  exact h m (List.mem_range.mpr hm)
/-- what work leaves of done and end of one who does not lead -/
theorem work_56 (hu : x 0 = 1) (hl : eL E (x 4) ≠ n) : (pWork E n x).1 5 = x 5 ∧ (pWork E n x).1 6 = x 6 := by
  rw [pWork_eq _ _ _ hu, if_neg (by rw [pFl_hi _ (by omega)]; exact hl)]
  exact ⟨by show pu (pFl x) 3 0 5 = x 5; rw [pu_ne _ _ (by omega), pFl_hi _ (by omega)], by show pu (pFl x) 3 0 6 = x 6; rw [pu_ne _ _ (by omega), pFl_hi _ (by omega)]⟩
theorem guide_nil {k : Nat} (h : pGuide E n x k = []) : x (20 + k) = 1 ∧ (x 10 = 1 → eK E (x 4) k → x 6 ≤ x (30 + k) ∧ x 5 ≤ x (40 + k)) ∧ (x 10 = 1 → ¬ eK E (x 4) k → x 11 ≤ pAgreed E x → x (30 + k) = 0) := by
  unfold pGuide at h
  by_cases q1 : x (20 + k) ≠ 1
  · rw [if_pos q1] at h; cases h
  rw [if_neg q1] at h
  refine ⟨Classical.byContradiction q1, fun r hk => ?_, fun r hk ha => ?_⟩
  · rw [if_pos ⟨r, hk⟩] at h
    by_cases q3 : x (30 + k) < x 6 ∨ x (40 + k) < x 5
    · rw [if_pos q3] at h; cases h
    · omega
  · rw [if_neg (fun z => hk z.2)] at h
    by_cases q4 : x 10 = 1 ∧ 0 < x (30 + k) ∧ x 11 ≤ pAgreed E x
    · rw [if_pos q4] at h; cases h
    · rcases Nat.eq_zero_or_pos (x (30 + k)) with z | z
      · exact z
      · exact absurd ⟨r, z, ha⟩ q4
/-- silence means that nobody misses anything -/
theorem silence {u : pSt} (hE : eOk E) (hJ : JS E u) (h : IS E e u) (hl : eL E e < eN E) (hd : pDone (pTick E u)) : ∀ n, n < eN E → (pTick E u).1 n 5 = if eKb E e n then u.2.2 1 else 0 := by
  have hJt := hJ.tick hE
  have ht := h.tick hE hJ
  obtain ⟨nd, post, y⟩ := u
  obtain ⟨hp, har⟩ := hd
  have hp : pSend (pSend (pSend post (pProc (y 0) (fun n => y (20 + n)) (eN E))) (pReqs (eL E (y 0)) (y 0) (fun j => y (40 + j)) (y 2) (y 1 - y 2))) (pWk E nd (eN E)) = [] := hp
  have har : ∀ i, y 2 ≤ i → i < y 1 → y (40 + i % 8) = 1 := har
  obtain ⟨h1, h2, h3, h4, h5⟩ := h
  obtain ⟨y1, y2, y3, y4, y5, rep0, c0, hJ0, -⟩ := hJ
  have h1 : y 0 = e := h1
  obtain ⟨p1, p2⟩ := send_nil hp
  obtain ⟨p3, p4⟩ := send_nil p1
  obtain ⟨p5, p6⟩ := send_nil p3
  have hN7 := hE.2.1
  have hin : ∀ n, n < eN E → nd n 4 = e := fun n hn => by
    refine h3 n hn ?_
    have a : y 0 ≤ y (20 + n) := proc_nil _ p6 n hn
    have b : y (20 + n) ≤ y 0 := y5 n (by omega)
    show y (20 + n) = e
    omega
  -- the leader
  have hll := hin _ hl
  have hu := h2 _ hl
  have hu : nd (eL E e) 0 = 1 := hu
  have hw := wk_nil _ p2 _ hl
  have hk : eK E e (eL E e) := hE.lead rfl (by omega)
  generalize hlv : eL E e = l at *
  have hql : eL E (pFl (nd l) 4) = l := by rw [pFl_hi _ (by omega), hll, hlv]
  rw [pWork_eq _ _ _ hu, if_pos hql] at hw
  obtain ⟨w1, w2⟩ := List.append_eq_nil_iff.mp hw
  rw [lead_eq] at w2
  obtain ⟨w3, w4⟩ := List.append_eq_nil_iff.mp w2
  obtain ⟨w5, w6⟩ := List.append_eq_nil_iff.mp w3
  have hg : ∀ m, m < eN E → m ≠ l → pGuide E l (pL3 E l (pFl (nd l))) m = [] := fun m hm hml => by
    have := flat_nil w4 m hm
    rw [if_neg hml] at this
    exact this
  have ne : ∀ j, (20 ≤ j ∨ j = 4 ∨ j = 6) → j ≠ 20 + l → j ≠ 30 + l → j ≠ 40 + l → pL3 E l (pFl (nd l)) j = nd l j := fun j h0 q1 q2 q3 => by rw [pL3_ne _ _ _ (by omega) (by omega) (by omega) (by omega) q1 q2 q3, pFl_hi _ (by omega)]
  have l4 : pL3 E l (pFl (nd l)) 4 = e := by rw [ne 4 (by omega) (by omega) (by omega) (by omega), hll]
  have l6 : pL3 E l (pFl (nd l)) 6 = nd l 6 := ne 6 (by omega) (by omega) (by omega) (by omega)
  have heard : ∀ m, m < eN E → m ≠ l → nd l (20 + m) = 1 := fun m hm hml => by
    have := (guide_nil (hg m hm hml)).1
    rw [ne _ (by omega) (by omega) (by omega) (by omega)] at this
    exact this
  have hL1 : ∀ m, m < eN E → pL1 l (pFl (nd l)) (20 + m) = 1 := fun m hm => by
    unfold pL1
    by_cases q : m = l
    · subst q
      unfold pNote
      rw [if_pos rfl]
    · rw [pNote_ne _ _ _ _ (by omega) (by omega) (by omega), pFl_hi _ (by omega)]
      exact heard m hm q
  have hready : pL3 E l (pFl (nd l)) 10 = 1 := by
    unfold pL3
    rw [pDo_lo _ _ _ (by omega) (by omega)]
    unfold pL2
    unfold pPrep at w5 ⊢
    by_cases q1 : pL1 l (pFl (nd l)) 10 = 1
    · rw [if_pos q1]; exact q1
    rw [if_neg q1] at w5 ⊢
    have q2 : ¬ pSize (eN E) (pL1 l (pFl (nd l))) < eQ E := by
      rw [size_all _ hL1]
      have := hE.2.2.1
      simp only [eQ]
      omega
    rw [if_neg q2] at w5 ⊢
    by_cases q3 : pFar (eN E) (pL1 l (pFl (nd l))) l = l
    · rw [if_pos q3]
      rfl
    · rw [if_neg q3] at w5; cases w5
  have ht1 : ∀ j, j ≠ 3 → (pTick E (nd, post, y)).1 l j = pL3 E l (pFl (nd l)) j := fun j hj => by
    show pWn E nd (eN E) l j = _
    unfold pWn
    rw [if_pos hl, pWork_eq _ _ _ hu, if_pos hql]
    show pu _ 3 0 j = _
    rw [pu_ne _ _ hj]
    rfl
  -- safety
  obtain ⟨-, -, -, -, -, rep, c, hJ, hc1, hc2⟩ := hJt
  have hJ : JJ E (y 0) (y 1) (pTick E (nd, post, y)).1 (pTick E (nd, post, y)).2.1 rep c := hJ
  have hc1 : y 2 ≤ c := hc1
  have hc2 : ∀ i, y 2 ≤ i → i < y 1 → y (40 + i % 8) = 1 → i < c := hc2
  have y3 : y 2 ≤ y 1 := y3
  have y2 : y 1 ≤ 512 := y2
  have hgc : y 1 ≤ c := by
    by_cases q : y 2 < y 1
    · have := hc2 (y 1 - 1) (by omega) (by omega) (har _ (by omega) (by omega))
      omega
    · omega
  have hcom := hJ.1.com_le (n := l) (by rw [ht1 _ (by omega)]; exact hready) (by rw [ht1 _ (by omega), l4]; exact hk) (by rw [ht1 _ (by omega), l4, h1])
  rw [ht1 _ (by omega), l6] at hcom
  have hle := (hJ.2.1 l).2.2.2.1
  rw [ht1 _ (by omega), l6] at hle
  have h6 : nd l 6 = y 1 := by omega
  -- keepers' notes
  have hself : pL3 E l (pFl (nd l)) (30 + l) = y 1 ∧ pL3 E l (pFl (nd l)) (20 + l) = 1 := by
    unfold pL3 pL2
    rw [pDo_lo _ _ _ (by omega) (by omega), pPrep_lo _ _ _ (by omega) (by omega), pDo_lo _ _ _ (by omega) (by omega), pPrep_lo _ _ _ (by omega) (by omega)]
    unfold pL1 pNote
    rw [if_neg (by omega), if_pos rfl, if_pos rfl, pFl_hi _ (by omega)]
    exact ⟨h6, rfl⟩
  have hkeep : ∀ m, m < eN E → m ≠ l → eK E e m → y 1 ≤ nd l (30 + m) ∧ pL3 E l (pFl (nd l)) 5 ≤ nd l (40 + m) := fun m hm hml hkm => by
    have := (guide_nil (hg m hm hml)).2.1 hready (by rw [l4]; exact hkm)
    rw [ne (30 + m) (by omega) (by omega) (by omega) (by omega), ne (40 + m) (by omega) (by omega) (by omega) (by omega), l6, h6] at this
    exact this
  have hag3 : ∀ x0 : pN, (∀ j, 20 ≤ j ∨ j = 4 → x0 j = pL3 E l (pFl (nd l)) j) → y 1 ≤ pAgreed E x0 := fun x0 hx0 => by
    unfold pAgreed
    rw [hx0 4 (Or.inr rfl), l4]
    refine agr_ge y2 _ (fun m hm hkm => ?_)
    rw [hx0 _ (by omega), hx0 _ (by omega)]
    by_cases q : m = l
    · subst q
      exact ⟨hself.2, by rw [hself.1]; exact Nat.le_refl _⟩
    · rw [ne _ (by omega) (by omega) (by omega) (by omega), ne _ (by omega) (by omega) (by omega) (by omega)]
      exact ⟨heard m hm q, (hkeep m hm q hkm).1⟩
  have h23 : ∀ j, j ≠ 5 → j ≠ 1 → pL2 E l (pFl (nd l)) j = pL3 E l (pFl (nd l)) j := fun j a b => by
    unfold pL3
    rw [pDo_lo _ _ _ a b]
  have h5d : pL3 E l (pFl (nd l)) 5 = y 1 := by
    have hb := (hJ.2.1 l).2.1
    rw [ht1 _ (by omega), ht1 _ (by omega), l6, h6] at hb
    have hb2 : y 1 ≤ pL3 E l (pFl (nd l)) 5 := by
      have ha := hag3 (pL2 E l (pFl (nd l))) (fun j hj => h23 j (by omega) (by omega))
      have e6 : pL2 E l (pFl (nd l)) 6 = y 1 := by rw [h23 6 (by omega) (by omega), l6, h6]
      have e10 : pL2 E l (pFl (nd l)) 10 = 1 := by rw [h23 10 (by omega) (by omega)]; exact hready
      show y 1 ≤ (pDo E l (pL2 E l (pFl (nd l)))).1 5
      unfold pDo
      rw [if_pos e10]
      show y 1 ≤ max _ (min _ _)
      rw [e6]
      omega
    omega
  intro n hn
  by_cases qn : n = l
  · subst qn
    rw [ht1 _ (by omega), h5d, if_pos (show eKb E e n = true from hk)]
  · have hnin := hin n hn
    have hnu := h2 n hn
    have hnu : nd n 0 = 1 := hnu
    have hln : eL E (nd n 4) ≠ n := by rw [hnin, hlv]; exact fun z => qn z.symm
    have e5 : (pTick E (nd, post, y)).1 n 5 = nd n 5 := by
      show pWn E nd (eN E) n 5 = nd n 5
      unfold pWn
      rw [if_pos hn]
      exact (work_56 hnu hln).1
    rw [e5]
    have h4 : sN E e nd := h4
    unfold sN at h4
    rw [hlv] at h4
    obtain ⟨r1, r2, r3, -⟩ := h4 hll n hn qn (heard n hn qn)
    obtain ⟨v0, v1, v2, v3, -⟩ := hJ0.2.1 n
    have v1 : nd n 5 ≤ nd n 6 := v1
    have v3 : nd n 6 ≤ y 1 := v3
    by_cases hkn : eK E e n
    · rw [if_pos (show eKb E e n = true from hkn)]
      have a := hkeep n hn qn hkn
      have b := r2 hkn
      show nd n 5 = y 1
      omega
    · rw [if_neg (show ¬ eKb E e n = true from hkn)]
      have hb : pL3 E l (pFl (nd l)) 11 ≤ pL3 E l (pFl (nd l)) 6 := by
        have := ((hJ.1.1 l).2.2.2.2.1 (by rw [ht1 _ (by omega)]; exact hready)).2.1
        rw [ht1 _ (by omega), ht1 _ (by omega)] at this
        exact this
      have a := (guide_nil (hg n hn qn)).2.2 hready (by rw [l4]; exact hkn) (by have := hag3 (pL3 E l (pFl (nd l))) (fun _ _ => rfl); rw [l6, h6] at hb; omega)
      rw [ne _ (by omega) (by omega) (by omega) (by omega)] at a
      have b := r3 hkn
      omega
end ISS
