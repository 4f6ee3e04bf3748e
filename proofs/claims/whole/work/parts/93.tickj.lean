/-! A tick, and all that arrives, keep what is well-formed and safe. -/
section TICKJ
variable {E : pE} {ep g : Nat} {nd : Nat → pN} {post : List pMsg} {rep : Nat → Nat → Nat} {c n : Nat}
theorem pFlush_hi (x : pN) {j : Nat} (h : 10 ≤ j ∨ (j < 7 ∧ j ≠ 1)) : pFlush x j = x j := by
  unfold pFlush
  split
  · simp only
    rw [if_neg (by omega), if_neg (by omega), if_neg (by omega), if_neg (by omega)]
  · rfl
theorem pPrep_lo (E : pE) (n : Nat) (x : pN) {j : Nat} (h : j ≠ 10) (h2 : j ≠ 11) : (pPrep E n x).1 j = x j := by
  unfold pPrep
  split
  · rfl
  · split
    · rfl
    · split
      · simp only
        rw [if_neg h, if_neg h2]
      · rfl
theorem pDo_lo (E : pE) (n : Nat) (x : pN) {j : Nat} (h : j ≠ 5) (h2 : j ≠ 1) : (pDo E n x).1 j = x j := by
  unfold pDo
  split
  · simp only
    rw [if_neg h, if_neg h2]
  · rfl
theorem JJ.lead (hE : eOk E) (h : JJ E ep g nd post rep c) (hep : ep < 1000000) (hg : g ≤ 512) (hl : eL E (nd n 4) = n) (hn : n < eN E) (hd : nd n 1 ≠ 1) : ∃ rep' c', c ≤ c' ∧ JJ E ep g (va_up nd n (pLead E n (nd n)).1) (post ++ (pLead E n (nd n)).2) rep' c' := by
  obtain ⟨v1, v2, v3⟩ := (h.2.1 n).2.2.2.2.2.2.2.1 hd
  obtain ⟨w0, w1, w2, w3, -⟩ := h.2.1 n
  obtain ⟨r1, r2, r3⟩ := h.1.report n v1 v3
  have j1 : JJ E ep g nd post (pRise rep n (nd n 4) (nd n 6)) c := ⟨r1, h.2⟩
  generalize pRise rep n (nd n 4) (nd n 6) = rep1 at *
  have j2 := j1.note (d := nd n 5) hE hn (by omega) (by omega) r2
  generalize hx1 : pNote (nd n) n (nd n 6) (nd n 5) = x1 at *
  have hx6 : x1 6 = nd n 6 := by
    rw [← hx1]; unfold pNote
    rw [if_neg (by omega), if_neg (by omega), if_neg (by omega)]
  have hx4 : x1 4 = nd n 4 := by
    rw [← hx1]; unfold pNote
    rw [if_neg (by omega), if_neg (by omega), if_neg (by omega)]
  have hx30 : x1 (30 + n) = nd n 6 := by
    rw [← hx1]; unfold pNote
    rw [if_neg (by omega), if_pos rfl]
  have j3 := j2.prep (n := n) hE hep (by rw [va_up_self, hx4]; exact hl) hn (by rw [va_up_self, hx30, hx6])
  rw [va_up_self, va_up_up] at j3
  have e4 : (pPrep E n x1).1 4 = nd n 4 := by rw [pPrep_lo _ _ _ (by omega) (by omega), hx4]
  obtain ⟨c4, hc4, j4⟩ := j3.does (n := n) hE hep hg (by rw [va_up_self, e4]; exact hl) hn
  rw [va_up_self, va_up_up] at j4
  have e5 : (pDo E n (pPrep E n x1).1).1 4 = nd n 4 := by rw [pDo_lo _ _ _ (by omega) (by omega), e4]
  have j5 := j4.guides (n := n) hE hep hg (by rw [va_up_self, e5]; exact hl) hn
  rw [va_up_self] at j5
  refine ⟨rep1, c4, hc4, ?_⟩
  have e : pLead E n (nd n) = ((pDo E n (pPrep E n x1).1).1, (pPrep E n x1).2 ++ (pDo E n (pPrep E n x1).1).2 ++ (List.range (eN E)).flatMap (fun m => if m = n then [] else pGuide E n (pDo E n (pPrep E n x1).1).1 m)) := by
    unfold pLead
    rw [hx1]
  rw [e]
  simp only
  rw [← List.append_assoc, ← List.append_assoc]
  exact j5
/-- what a node sends first -/
def pHd (n : Nat) (x : pN) : List pMsg := if pFlush x 2 = 1 then [((1, n, 99, pFlush x 4, 0, 0) : pMsg)] else []
/-- flushed, and nothing owed to the keeper of the maps -/
def pFl (x : pN) : pN := if pFlush x 2 = 1 then pu (pFlush x) 2 0 else pFlush x
theorem pWork_eq (E : pE) (n : Nat) (x : pN) (hu : x 0 = 1) : pWork E n x = if eL E (pFl x 4) = n then (pu (pLead E n (pFl x)).1 3 0, pHd n x ++ (pLead E n (pFl x)).2) else (pu (pFl x) 3 0, pHd n x ++ (if pFl x 3 = 1 ∧ eL E (pFl x 4) ≠ 99 then [((5, n, eL E (pFl x 4), pFl x 4, pFl x 6, pFl x 5) : pMsg)] else [])) := by
  unfold pWork pHd pFl
  rw [if_neg (by omega)]
theorem pFl_hi (x : pN) {j : Nat} (h : 10 ≤ j ∨ (j < 7 ∧ j ≠ 1 ∧ j ≠ 2)) : pFl x j = x j := by
  unfold pFl
  split
  · rw [pu_ne _ _ (by omega), pFlush_hi x (by omega)]
  · exact pFlush_hi x (by omega)
theorem JJ.work (hE : eOk E) (h : JJ E ep g nd post rep c) (hep : ep < 1000000) (hg : g ≤ 512) (hn : n < eN E) : ∃ rep' c', c ≤ c' ∧ JJ E ep g (va_up nd n (pWork E n (nd n)).1) (post ++ (pWork E n (nd n)).2) rep' c' := by
  by_cases q0 : nd n 0 = 1
  case neg =>
    refine ⟨rep, c, Nat.le_refl _, ?_⟩
    unfold pWork
    rw [if_pos q0]
    simp only [List.append_nil]
    rw [va_up_id]
    exact h
  rw [pWork_eq _ _ _ q0]
  obtain ⟨j1, hd⟩ := h.flush n
  have h4 := h.1.2.2.2.2.1 n
  have j2 : JJ E ep g (va_up nd n (pFlush (nd n))) (post ++ pHd n (nd n)) rep c := by
    refine j1.add (fun m hm => ?_)
    rcases List.mem_append.mp hm with z | z
    · exact Or.inl z
    · right
      unfold pHd at z
      by_cases y : pFlush (nd n) 2 = 1
      · rw [if_pos y] at z
        have z : m = (1, n, 99, pFlush (nd n) 4, 0, 0) := by simpa using z
        subst z
        have e4 : pFlush (nd n) 4 = nd n 4 := pFlush_hi _ (by omega)
        exact ⟨pIm_plain (by simp) (by simp) (by simp) (by simp) (by simp), by show pFlush (nd n) 4 ≤ ep; omega, ⟨by show 1 < 10; omega, by show pFlush (nd n) 4 < 1000000; omega, fun _ => hn, fun z => absurd rfl z, by show 0 ≤ 512; omega, by show 0 ≤ 512; omega⟩, (fun z => by rcases z with z | z <;> cases z), (fun z => by rcases z with z | z <;> cases z)⟩
      · rw [if_neg y] at z
        cases z
  have j3 : JJ E ep g (va_up nd n (pFl (nd n))) (post ++ pHd n (nd n)) rep c ∧ pFl (nd n) 1 ≠ 1 := by
    unfold pFl
    split
    · have := j2.flag (n := n) (f := 2) (v := 0) (Or.inl rfl)
      rw [va_up_self, va_up_up] at this
      exact ⟨this, by rw [pu_ne _ _ (by omega)]; exact hd⟩
    · exact ⟨j2, hd⟩
  obtain ⟨j3, hd3⟩ := j3
  by_cases ql : eL E (pFl (nd n) 4) = n
  · rw [if_pos ql]
    obtain ⟨rep', c', hc, j4⟩ := j3.lead (n := n) hE hep hg (by rw [va_up_self]; exact ql) hn (by rw [va_up_self]; exact hd3)
    rw [va_up_self, va_up_up] at j4
    have j5 := j4.flag (n := n) (f := 3) (v := 0) (Or.inr (Or.inl rfl))
    rw [va_up_self, va_up_up, List.append_assoc] at j5
    exact ⟨rep', c', hc, j5⟩
  · rw [if_neg ql]
    by_cases qr : pFl (nd n) 3 = 1 ∧ eL E (pFl (nd n) 4) ≠ 99
    · rw [if_pos qr]
      obtain ⟨v1, v2, v3⟩ := (j3.2.1 n).2.2.2.2.2.2.2.1 (by rw [va_up_self]; exact hd3)
      obtain ⟨w0, w1, w2, w3, -⟩ := j3.2.1 n
      obtain ⟨r1, r2, r3⟩ := j3.1.report n v1 v3
      rw [va_up_self] at r1 r2 r3 w1 w2 w3
      have hl : eL E (pFl (nd n) 4) < eN E := (eL_lt E _ hE.2.1).resolve_left qr.2
      have e4 : pFl (nd n) 4 = nd n 4 := pFl_hi _ (by omega)
      have j4 : JJ E ep g (va_up nd n (pFl (nd n))) (post ++ (pHd n (nd n) ++ [(5, n, eL E (pFl (nd n) 4), pFl (nd n) 4, pFl (nd n) 6, pFl (nd n) 5)])) (pRise rep n (pFl (nd n) 4) (pFl (nd n) 6)) c := by
        refine JJ.add ⟨r1, j3.2⟩ (fun m hm => ?_)
        rw [← List.append_assoc] at hm
        rcases List.mem_append.mp hm with z | z
        · exact Or.inl z
        · right
          have z : m = (5, n, eL E (pFl (nd n) 4), pFl (nd n) 4, pFl (nd n) 6, pFl (nd n) 5) := by simpa using z
          subst z
          exact ⟨⟨fun _ => r2, (fun z => by cases z), (fun z => by rcases z with z | z <;> cases z), (fun z => by cases z)⟩, by show pFl (nd n) 4 ≤ ep; omega, ⟨by show 5 < 10; omega, by show pFl (nd n) 4 < 1000000; omega, fun _ => hn, fun _ _ => hl, by show pFl (nd n) 6 ≤ 512; omega, by show pFl (nd n) 5 ≤ 512; omega⟩, (fun z => by rcases z with z | z <;> cases z), (fun z => by rcases z with z | z <;> cases z)⟩
      have j5 := j4.flag (n := n) (f := 3) (v := 0) (Or.inr (Or.inl rfl))
      rw [va_up_self, va_up_up] at j5
      exact ⟨_, c, Nat.le_refl _, j5⟩
    · rw [if_neg qr]
      have j5 := j3.flag (n := n) (f := 3) (v := 0) (Or.inr (Or.inl rfl))
      rw [va_up_self, va_up_up] at j5
      refine ⟨rep, c, Nat.le_refl _, ?_⟩
      simp only [List.append_nil]
      exact j5
theorem pWn_suc (E : pE) (nd : Nat → pN) (k : Nat) : pWn E nd (k + 1) = va_up (pWn E nd k) k (pWork E k (nd k)).1 := by
  funext n
  by_cases z : n = k
  · subst z
    rw [va_up_self, pWn, if_pos (by omega)]
  · rw [va_up_ne _ _ z]
    unfold pWn
    by_cases w : n < k
    · rw [if_pos w, if_pos (by omega)]
    · rw [if_neg w, if_neg (by omega)]
theorem JJ.works (hE : eOk E) (h : JJ E ep g nd post rep c) (hep : ep < 1000000) (hg : g ≤ 512) : ∀ k, k ≤ eN E → ∃ rep' c', c ≤ c' ∧ JJ E ep g (pWn E nd k) (post ++ pWk E nd k) rep' c' := by
  intro k
  induction k with
  | zero =>
    intro _
    refine ⟨rep, c, Nat.le_refl _, ?_⟩
    have e : pWn E nd 0 = nd := by
      funext n
      unfold pWn
      rw [if_neg (by omega)]
    rw [e, pWk, List.append_nil]
    exact h
  | succ k ih =>
    intro hk
    obtain ⟨rep1, c1, h1, j1⟩ := ih (by omega)
    obtain ⟨rep2, c2, h2, j2⟩ := j1.work (n := k) hE hep hg (by omega)
    have e : pWn E nd k k = nd k := by
      unfold pWn
      rw [if_neg (by omega)]
    rw [e] at j2
    refine ⟨rep2, c2, by omega, ?_⟩
    rw [pWn_suc, pWk, ← List.append_assoc]
    exact j2
theorem mem_proc {ep : Nat} {hd : Nat → Nat} {m : pMsg} : ∀ k, m ∈ pProc ep hd k → ∃ n, n < k ∧ hd n < ep ∧ m = (0, 99, n, ep, 0, 0) := by
  intro k
  induction k with
  | zero => intro h; cases h
  | succ k ih =>
    intro h
    rw [pProc] at h
    rcases List.mem_append.mp h with z | z
    · obtain ⟨n, hn, h2⟩ := ih z
      exact ⟨n, by omega, h2⟩
    · by_cases q : hd k < ep
      · rw [if_pos q] at z
        exact ⟨k, by omega, q, by simpa using z⟩
      · rw [if_neg q] at z; cases z
theorem mem_reqs {ld ep : Nat} {ar : Nat → Nat} {td : Nat} {m : pMsg} : ∀ k, m ∈ pReqs ld ep ar td k → ld ≠ 99 ∧ ∃ i, i < k ∧ ar ((td + i) % 8) ≠ 1 ∧ m = (2, 99, ld, ep, td + i, 0) := by
  intro k
  induction k with
  | zero => intro h; cases h
  | succ k ih =>
    intro h
    rw [pReqs] at h
    rcases List.mem_append.mp h with z | z
    · obtain ⟨h1, n, hn, h2⟩ := ih z
      exact ⟨h1, n, by omega, h2⟩
    · by_cases q : ar ((td + k) % 8) = 1
      · rw [if_pos q] at z; cases z
      · rw [if_neg q] at z
        unfold pReq1 at z
        by_cases q2 : ld = 99
        · rw [if_pos q2] at z; cases z
        · rw [if_neg q2] at z
          exact ⟨q2, k, by omega, q, by simpa using z⟩
/-- a map's message -/
theorem map_ok (hep : ep < 1000000) {k : Nat} (hk : k < eN E) : pIm E nd rep c (0, 99, k, ep, 0, 0) ∧ ep ≤ ep ∧ mW E g (0, 99, k, ep, 0, 0) :=
  ⟨pIm_plain (by simp) (by simp) (by simp) (by simp) (by simp), Nat.le_refl _, ⟨by show 0 < 10; omega, hep, (fun z => by rcases z with z | z | z <;> cases z), fun _ _ => hk, by show 0 ≤ 512; omega, by show 0 ≤ 512; omega⟩, (fun z => by rcases z with z | z <;> cases z), (fun z => by rcases z with z | z <;> cases z)⟩
theorem cmd_ok (hE : eOk E) (hep : ep < 1000000) (hg : g ≤ 512) {i : Nat} (hi : i < g) (hl : eL E ep ≠ 99) : pIm E nd rep c (2, 99, eL E ep, ep, i, 0) ∧ ep ≤ ep ∧ mW E g (2, 99, eL E ep, ep, i, 0) :=
  ⟨pIm_plain (by simp) (by simp) (by simp) (by simp) (by simp), Nat.le_refl _, ⟨by show 2 < 10; omega, hep, (fun z => by rcases z with z | z | z <;> cases z), fun _ _ => (eL_lt E _ hE.2.1).resolve_left hl, by show i ≤ 512; omega, by show 0 ≤ 512; omega⟩, (fun z => by rcases z with z | z <;> cases z), fun _ => hi⟩
theorem JS.tick {s : pSt} (hE : eOk E) (h : JS E s) : JS E (pTick E s) := by
  obtain ⟨nd, post, y⟩ := s
  obtain ⟨y1, y2, y3, y4, y5, rep, c, h, h2, h3⟩ := h
  have h : JJ E (y 0) (y 1) nd post rep c := h
  have y1 : y 0 < 1000000 := y1
  have y2 : y 1 ≤ 512 := y2
  have y3 : y 2 ≤ y 1 := y3
  have j1 : JJ E (y 0) (y 1) nd (pSend post (pProc (y 0) (fun n => y (20 + n)) (eN E))) rep c := h.send (fun m hm => by
    obtain ⟨k, hk, -, rfl⟩ := mem_proc _ hm
    exact map_ok y1 hk)
  have j2 := j1.send (a := pReqs (eL E (y 0)) (y 0) (fun j => y (40 + j)) (y 2) (y 1 - y 2)) (fun m hm => by
    obtain ⟨hl, i, hi, -, rfl⟩ := mem_reqs _ hm
    exact cmd_ok hE y1 y2 (by omega) hl)
  obtain ⟨rep', c', hc, j3⟩ := j2.works hE y1 y2 (eN E) (Nat.le_refl _)
  have h2 : y 2 ≤ c := h2
  refine ⟨y1, y2, y3, y4, y5, rep', c', j3.sub (fun m hm => List.mem_of_mem_take hm), Nat.le_trans h2 hc, fun i i1 i2 i3 => Nat.lt_of_lt_of_le (h3 i i1 i2 i3) hc⟩
theorem JS.arr {s : pSt} {m : pMsg} (hE : eOk E) (h : JS E s) (hm : m ∈ s.2.1) : JS E (pArr E s.1 s.2.1 s.2.2 m) := by
  obtain ⟨nd, post, y⟩ := s
  obtain ⟨y1, y2, y3, y4, y5, rep, c, h, h2, h3⟩ := h
  have h : JJ E (y 0) (y 1) nd post rep c := h
  have hm : m ∈ post := hm
  have y1 : y 0 < 1000000 := y1
  have y2 : y 1 ≤ 512 := y2
  have y3 : y 2 ≤ y 1 := y3
  have y4 : y 1 ≤ y 2 + 8 := y4
  have hmw := h.2.2 m hm
  have hN := hE.2.1
  unfold pArr
  by_cases q1 : m.1 = 1
  · rw [if_pos q1]
    have hf := hmw.1.2.2.1 (Or.inl q1)
    have he := h.1.2.2.2.2.2 m hm
    have e : ∀ j, j ≠ 20 + m.2.1 → pu y (20 + m.2.1) (max (y (20 + m.2.1)) m.2.2.2.1) j = y j := fun j hj => pu_ne _ _ hj
    unfold JS
    simp only
    rw [e 0 (by omega), e 1 (by omega), e 2 (by omega)]
    refine ⟨y1, y2, y3, y4, fun n hn => ?_, rep, c, h, h2, fun i i1 i2 i3 => ?_⟩
    · by_cases z : n = m.2.1
      · subst z
        rw [pu_self]
        have := y5 m.2.1 hn
        simp only at this
        omega
      · rw [e _ (by omega)]
        exact y5 n hn
    · rw [e _ (by omega)] at i3
      exact h3 i i1 i2 i3
  rw [if_neg q1]
  by_cases q3 : m.1 = 3
  · rw [if_pos q3]
    by_cases q4 : y 2 ≤ m.2.2.2.2.1 ∧ m.2.2.2.2.1 < y 1
    · simp only
      rw [if_pos q4]
      have e : ∀ j, j ≠ 40 + m.2.2.2.2.1 % 8 → pu y (40 + m.2.2.2.2.1 % 8) 1 j = y j := fun j hj => pu_ne _ _ hj
      unfold JS
      simp only
      rw [e 0 (by omega), e 1 (by omega), e 2 (by omega)]
      refine ⟨y1, y2, y3, y4, fun n hn => ?_, rep, c, h, h2, fun i i1 i2 i3 => ?_⟩
      · rw [e _ (by omega)]
        exact y5 n hn
      · by_cases z : i % 8 = m.2.2.2.2.1 % 8
        · have : i = m.2.2.2.2.1 := by omega
          rw [this]
          exact (h.1.2.2.1 m hm).2.2.2 q3
        · rw [e _ (by omega)] at i3
          exact h3 i i1 i2 i3
    · simp only
      rw [if_neg q4]
      exact ⟨y1, y2, y3, y4, y5, rep, c, h, h2, h3⟩
  rw [if_neg q3]
  simp only
  split
  · exact ⟨y1, y2, y3, y4, y5, rep, c, h.hear hE y1 y2 hm rfl q1 q3, h2, h3⟩
  · exact ⟨y1, y2, y3, y4, y5, rep, c, h, h2, h3⟩
theorem JS.sub {s : pSt} {p : List pMsg} (h : JS E s) (hp : ∀ m ∈ p, m ∈ s.2.1) : JS E (s.1, p, s.2.2) := by
  obtain ⟨y1, y2, y3, y4, y5, rep, c, h, h2, h3⟩ := h
  exact ⟨y1, y2, y3, y4, y5, rep, c, h.sub hp, h2, h3⟩
theorem JS.jc (hE : eOk E) : Jc E (JS E) := by
  refine ⟨fun s hs => ?_, fun s i m hs hm => hs.arr hE (List.mem_of_getElem? hm), fun s i hs => hs.sub (fun m hm => List.mem_of_mem_eraseIdx hm), fun s hs => hs.tick hE⟩
  obtain ⟨y1, y2, y3, y4, y5, rep, c, h, h2, h3⟩ := hs
  have := hE.2.1
  refine ⟨fun m hm => (h.2.2 m hm).1, fun n hn m hm => ?_⟩
  have := ((h.2.1 n).2.2.2.2.2.2.2.2 m (by omega)).1
  omega
end TICKJ
