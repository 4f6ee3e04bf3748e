/-! The regime: arrivals and ticks in it. -/
def RG (E : pE) (e : Nat) (s : pSt) : Prop := JS E s ∧ IS E e s ∧ (∀ n, n < eN E → s.1 n 4 = e) ∧ (∀ m ∈ s.2.1, m.2.2.2.1 = e) ∧ s.2.1.length ≤ 63
section RGJ
variable {E : pE} {e : Nat} {a : pMsg} {r : List pMsg} {s : pSt}
/-- all that an arrival does in the regime -/
theorem RG.eff (hE : eOk E) (h : RG E e s) (hs : s.2.1 = a :: r) (h1 : a.1 ≠ 1) (h3 : a.1 ≠ 3) : a.2.2.1 < eN E ∧ nEff a (s.1 a.2.2.1) (pHear E a.2.2.1 (s.1 a.2.2.1) a).1 ∧ pGo E s 0 a = (va_up s.1 a.2.2.1 (pHear E a.2.2.1 (s.1 a.2.2.1) a).1, r ++ (pHear E a.2.2.1 (s.1 a.2.2.1) a).2, s.2.2) ∧ mW E (s.2.2 1) a ∧ nW (s.2.2 1) (s.1 a.2.2.1) := by
  obtain ⟨hJ, hI, h4, he, hl⟩ := h
  obtain ⟨y1, y2, y3, y4, y5, rep, c, hJ, -⟩ := hJ
  have ha : a ∈ s.2.1 := by rw [hs]; exact List.mem_cons_self
  have hw := hJ.2.2 a ha
  have hn := hw.1.2.2.2.1 h1 h3
  have hx := hJ.2.1 a.2.2.1
  have hN7 := hE.2.1
  refine ⟨hn, nEff_of (hear_cases E a.2.2.1 (s.1 a.2.2.1) a) (by rw [he a ha, h4 _ hn]) hx.2.1 hx.2.2.1 (fun z => ⟨(hw.2.1 z).1, (hw.2.1 z).2.1⟩) (fun z => by have := hw.1.2.2.1 (Or.inr (Or.inl z)); omega), ?_, hw, hx⟩
  rcases go_cases (E := E) hs with ⟨q, -⟩ | ⟨q, -⟩ | ⟨-, -, -, q⟩ | ⟨-, -, q, -⟩
  · exact absurd q h1
  · exact absurd q h3
  · rw [q]
    congr 2
    refine List.take_of_length_le ?_
    rw [hs] at hl
    simp only [List.length_cons] at hl
    rw [List.length_append]
    rcases hear_rep (hear_cases E a.2.2.1 (s.1 a.2.2.1) a) with z | ⟨-, z⟩ | ⟨-, z⟩
    · rw [z]; simp only [List.length_nil]; omega
    · rw [z]; simp only [List.length_cons, List.length_nil]; omega
    · rw [z]; simp only [List.length_cons, List.length_nil]; omega
  · exact absurd (hI.2.1 _ hn) q
theorem RG.go (hE : eOk E) (h : RG E e s) (hs : s.2.1 = a :: r) : RG E e (pGo E s 0 a) := by
  have h0 : s.2.1[0]? = some a := by rw [hs]; rfl
  refine ⟨h.1.go hE h0, h.2.1.go hE h.1 h0, ?_⟩
  have hl := h.2.2.2.2
  have hr : ∀ m ∈ r, m.2.2.2.1 = e := fun m hm => h.2.2.2.1 m (by rw [hs]; exact List.mem_cons_of_mem _ hm)
  rw [hs] at hl
  simp only [List.length_cons] at hl
  by_cases q1 : a.1 = 1
  · rcases go_cases (E := E) hs with ⟨-, q⟩ | ⟨q, -⟩ | ⟨q, -⟩ | ⟨q, -⟩
    · rw [q]; exact ⟨h.2.2.1, hr, by show r.length ≤ 63; omega⟩
    · omega
    · exact absurd q1 q
    · exact absurd q1 q
  by_cases q3 : a.1 = 3
  · rcases go_cases (E := E) hs with ⟨q, -⟩ | ⟨-, q⟩ | ⟨-, q, -⟩ | ⟨-, q, -⟩
    · omega
    · rw [q]; exact ⟨h.2.2.1, hr, by show r.length ≤ 63; omega⟩
    · exact absurd q3 q
    · exact absurd q3 q
  obtain ⟨hn, hf, hg, -, -⟩ := h.eff hE hs q1 q3
  rw [hg]
  refine ⟨fun n hn2 => ?_, fun m hm => ?_, ?_⟩
  · show va_up s.1 _ _ n 4 = e
    by_cases z : n = a.2.2.1
    · subst z; rw [va_up_self, hf.1]; exact h.2.2.1 _ hn
    · rw [va_up_ne _ _ z]; exact h.2.2.1 n hn2
  · rcases List.mem_append.mp hm with z | z
    · exact hr m z
    · rcases hear_rep (hear_cases E a.2.2.1 (s.1 a.2.2.1) a) with w | ⟨-, w⟩ | ⟨-, w⟩
      · rw [w] at z; cases z
      · rw [w] at z
        have z : m = (3, a.2.2.1, 99, s.1 a.2.2.1 4, a.2.2.2.2.1, 0) := by simpa using z
        rw [z]; exact h.2.2.1 _ hn
      · rw [w] at z
        have z : m = (8, a.2.2.1, a.2.1, s.1 a.2.2.1 4, s.1 a.2.2.1 6, s.1 a.2.2.1 5) := by simpa using z
        rw [z]; exact h.2.2.1 _ hn
  · show (r ++ _).length ≤ 63
    rw [List.length_append]
    rcases hear_rep (hear_cases E a.2.2.1 (s.1 a.2.2.1) a) with z | ⟨-, z⟩ | ⟨-, z⟩
    · rw [z]; simp only [List.length_nil]; omega
    · rw [z]; simp only [List.length_cons, List.length_nil]; omega
    · rw [z]; simp only [List.length_cons, List.length_nil]; omega
/-- closed under arrivals in the regime -/
def cl (E : pE) (e : Nat) (P : pSt → Prop) : Prop := ∀ (s : pSt) (a : pMsg) (r : List pMsg), RG E e s → s.2.1 = a :: r → P s → P (pGo E s 0 a)
theorem cl.keep {P : pSt → Prop} (hE : eOk E) (hP : cl E e P) (f : Nat) (h : RG E e s) (p : P s) : RG E e (pBA E f s) ∧ P (pBA E f s) :=
  pBA_keep (I := fun s => RG E e s ∧ P s) (fun s a r hs ⟨h, p⟩ => ⟨h.go hE hs, hP s a r h hs p⟩) f s ⟨h, p⟩
/-- a message under way arrives -/
theorem pBA_reach {P Q : pSt → Prop} (hE : eOk E) (hP : cl E e P) (hQ : cl E e (fun s => P s ∧ Q s)) (hit : ∀ (s : pSt) (r : List pMsg), RG E e s → s.2.1 = a :: r → P s → Q (pGo E s 0 a)) : ∀ (f : Nat) (s : pSt), RG E e s → P s → a ∈ s.2.1 → wt s.2.1 ≤ f → Q (pBA E f s) := by
  intro f
  induction f with
  | zero =>
    intro s h p ha hw
    have := (wt_len s.2.1).1
    have : s.2.1 = [] := List.length_eq_zero_iff.mp (by omega)
    rw [this] at ha
    cases ha
  | succ f ih =>
    intro s h p ha hw
    obtain ⟨nd, post, y⟩ := s
    cases post with
    | nil => cases ha
    | cons b r =>
      have hg := h.go (a := b) (r := r) hE rfl
      have hp := hP _ b r h rfl p
      show Q (pBA E f (pGo E (nd, b :: r, y) 0 b))
      by_cases q : b = a
      · subst q
        exact (hQ.keep hE f hg ⟨hp, hit _ r h rfl p⟩).2.2
      · refine ih _ hg hp ?_ ?_
        · have ha : a ∈ r := by
            rcases List.mem_cons.mp ha with z | z
            · exact absurd z.symm q
            · exact z
          have hr : ∃ t, (pGo E (nd, b :: r, y) 0 b).2.1 = r ++ t := by
            by_cases q1 : b.1 = 1 ∨ b.1 = 3
            · rcases go_cases (E := E) (s := (nd, b :: r, y)) (a := b) (r := r) rfl with ⟨-, q⟩ | ⟨-, q⟩ | ⟨z1, z2, -⟩ | ⟨z1, z2, -⟩
              · rw [q]; exact ⟨[], (List.append_nil _).symm⟩
              · rw [q]; exact ⟨[], (List.append_nil _).symm⟩
              · rcases q1 with q1 | q1
                · exact absurd q1 z1
                · exact absurd q1 z2
              · rcases q1 with q1 | q1
                · exact absurd q1 z1
                · exact absurd q1 z2
            · obtain ⟨-, -, hg2, -⟩ := h.eff (a := b) (r := r) hE rfl (fun z => q1 (Or.inl z)) (fun z => q1 (Or.inr z))
              rw [hg2]
              exact ⟨_, rfl⟩
          obtain ⟨t, ht⟩ := hr
          rw [ht]
          exact List.mem_append.mpr (Or.inl ha)
        · have := wt_go (E := E) (s := (nd, b :: r, y)) (a := b) (r := r) rfl
          simp only at hw
          omega
/-- how much a node sends -/
theorem hd_len (n : Nat) (x : pN) : (pHd n x).length ≤ 1 := by
  unfold pHd
  split
  · exact Nat.le_refl _
  · exact Nat.zero_le _
theorem guide_len (n : Nat) (x : pN) (k : Nat) : (pGuide E n x k).length ≤ 1 := by
  unfold pGuide
  split
  · exact Nat.le_refl _
  · split
    · split
      · exact Nat.le_refl _
      · exact Nat.zero_le _
    · split
      · exact Nat.le_refl _
      · exact Nat.zero_le _
theorem flat_len {f : Nat → List pMsg} (hf : ∀ k, (f k).length ≤ 1) : ∀ l : List Nat, (l.flatMap f).length ≤ l.length := by
  intro l
  induction l with
  | nil => exact Nat.le_refl _
  | cons a l ih =>
    rw [List.flatMap_cons, List.length_append, List.length_cons]
    have := hf a
    omega
theorem lead_len {n : Nat} {x : pN} (h : x 6 ≤ x 5 + 8) (hN : eN E < 7) : (pLead E n x).2.length ≤ 15 := by
  rw [lead_eq]
  simp only [List.length_append]
  have h1 : (pPrep E n (pL1 n x)).2.length ≤ 1 := by
    unfold pPrep
    split
    · exact Nat.zero_le _
    · split
      · exact Nat.zero_le _
      · split
        · exact Nat.zero_le _
        · exact Nat.le_refl _
  have e5 : pL2 E n x 5 = x 5 := by
    unfold pL2 pL1
    rw [pPrep_lo _ _ _ (by omega) (by omega), pNote_ne _ _ _ _ (by omega) (by omega) (by omega)]
  have e6 : pL2 E n x 6 = x 6 := by
    unfold pL2 pL1
    rw [pPrep_lo _ _ _ (by omega) (by omega), pNote_ne _ _ _ _ (by omega) (by omega) (by omega)]
  have h2 : (pDo E n (pL2 E n x)).2.length ≤ 8 := by
    unfold pDo
    split
    · simp only [List.length_map, List.length_range]
      rw [e5, e6]
      omega
    · exact Nat.zero_le _
  have h3 := flat_len (f := fun m => if m = n then [] else pGuide E n (pL3 E n x) m) (fun k => by
    split
    · exact Nat.zero_le _
    · exact guide_len _ _ _) (List.range (eN E))
  rw [List.length_range] at h3
  omega
theorem work_len {n : Nat} {x : pN} (h : x 6 ≤ x 5 + 8) (hN : eN E < 7) : (pWork E n x).2.length ≤ (if eL E (x 4) = n then 16 else 2) := by
  by_cases hu : x 0 = 1
  · rw [pWork_eq _ _ _ hu, pFl_hi x (j := 4) (by omega)]
    have h1 := hd_len n x
    by_cases q : eL E (x 4) = n
    · rw [if_pos q, if_pos q]
      have := lead_len (E := E) (n := n) (x := pFl x) (by rw [pFl_hi x (by omega), pFl_hi x (by omega)]; exact h) hN
      simp only [List.length_append]
      omega
    · rw [if_neg q, if_neg q]
      simp only [List.length_append]
      split
      · simp only [List.length_cons, List.length_nil]; omega
      · simp only [List.length_nil]; omega
  · unfold pWork
    rw [if_pos hu]
    exact Nat.zero_le _
theorem proc_len {ep : Nat} {hd : Nat → Nat} : ∀ k, (pProc ep hd k).length ≤ k := by
  intro k
  induction k with
  | zero => exact Nat.le_refl _
  | succ k ih =>
    rw [pProc, List.length_append]
    split
    · simp only [List.length_cons, List.length_nil]; omega
    · simp only [List.length_nil]; omega
theorem reqs_len {ld ep td : Nat} {ar : Nat → Nat} : ∀ k, (pReqs ld ep ar td k).length ≤ k := by
  intro k
  induction k with
  | zero => exact Nat.le_refl _
  | succ k ih =>
    rw [pReqs, List.length_append]
    unfold pReq1
    split
    · simp only [List.length_nil]; omega
    · split
      · simp only [List.length_nil]; omega
      · simp only [List.length_cons, List.length_nil]; omega
/-- a tick in the regime, nothing under way: all that is sent is under way behind it -/
theorem RG.sent (hE : eOk E) (h : RG E e s) (hp : s.2.1 = []) : (pTick E s).2.1 = pProc (s.2.2 0) (fun n => s.2.2 (20 + n)) (eN E) ++ pReqs (eL E (s.2.2 0)) (s.2.2 0) (fun j => s.2.2 (40 + j)) (s.2.2 2) (s.2.2 1 - s.2.2 2) ++ pWk E s.1 (eN E) ∧ (pTick E s).2.1.length ≤ 63 := by
  have hN7 := hE.2.1
  obtain ⟨⟨y1, y2, y3, y4, y5, rep, c, hJ, -⟩, -, h4, -⟩ := h
  have hw : ∀ k, k ≤ eN E → (pWk E s.1 k).length ≤ 2 * k + (if eL E e < k then 16 else 0) := by
    intro k
    induction k with
    | zero => intro _; exact Nat.zero_le _
    | succ k ih =>
      intro hk
      have := ih (by omega)
      have h2 := work_len (E := E) (n := k) (x := s.1 k) (hJ.2.1 k).2.2.1 hN7
      rw [h4 k (by omega)] at h2
      rw [pWk, List.length_append]
      by_cases q : eL E e = k
      · rw [if_pos q] at h2
        rw [if_neg (by omega)] at this
        rw [if_pos (by omega)]
        omega
      · rw [if_neg q] at h2
        by_cases q2 : eL E e < k
        · rw [if_pos q2] at this
          rw [if_pos (by omega)]
          omega
        · rw [if_neg q2] at this
          rw [if_neg (by omega)]
          omega
  have h1 := hw (eN E) (Nat.le_refl _)
  have h2 := proc_len (ep := s.2.2 0) (hd := fun n => s.2.2 (20 + n)) (eN E)
  have h3 := reqs_len (ld := eL E (s.2.2 0)) (ep := s.2.2 0) (ar := fun j => s.2.2 (40 + j)) (td := s.2.2 2) (s.2.2 1 - s.2.2 2)
  have h16 : (if eL E e < eN E then 16 else 0) ≤ 16 := by split <;> omega
  have e0 : (pTick E s).2.1 = pProc (s.2.2 0) (fun n => s.2.2 (20 + n)) (eN E) ++ pReqs (eL E (s.2.2 0)) (s.2.2 0) (fun j => s.2.2 (40 + j)) (s.2.2 2) (s.2.2 1 - s.2.2 2) ++ pWk E s.1 (eN E) := by
    show pSend (pSend (pSend s.2.1 _) _) _ = _
    rw [hp]
    have a1 : pSend [] (pProc (s.2.2 0) (fun n => s.2.2 (20 + n)) (eN E)) = pProc (s.2.2 0) (fun n => s.2.2 (20 + n)) (eN E) := by
      unfold pSend
      rw [List.nil_append, List.take_of_length_le (by omega)]
    have a2 : ∀ p q : List pMsg, p.length + q.length ≤ 64 → pSend p q = p ++ q := fun p q hq => by
      unfold pSend
      rw [List.take_of_length_le (by rw [List.length_append]; exact hq)]
    rw [a1, a2 (pProc _ _ _) (pReqs _ _ _ _ _) (by omega), a2 (_ ++ _) _ (by rw [List.length_append]; omega)]
  refine ⟨e0, ?_⟩
  rw [e0, List.length_append, List.length_append]
  omega
theorem mem_wk {nd : Nat → pN} : ∀ k, a ∈ pWk E nd k ↔ ∃ n, n < k ∧ a ∈ (pWork E n (nd n)).2 := by
  intro k
  induction k with
  | zero => exact ⟨(fun h => by cases h), fun ⟨n, hn, _⟩ => by omega⟩
  | succ k ih =>
    rw [pWk, List.mem_append, ih]
    constructor
    · rintro (⟨n, hn, h⟩ | h)
      · exact ⟨n, by omega, h⟩
      · exact ⟨k, by omega, h⟩
    · rintro ⟨n, hn, h⟩
      by_cases q : n = k
      · subst q; exact Or.inr h
      · exact Or.inl ⟨n, by omega, h⟩
/-- what is under way behind a tick -/
theorem RG.mem (hE : eOk E) (h : RG E e s) (hp : s.2.1 = []) : a ∈ (pTick E s).2.1 ↔ a ∈ pProc (s.2.2 0) (fun n => s.2.2 (20 + n)) (eN E) ∨ a ∈ pReqs (eL E (s.2.2 0)) (s.2.2 0) (fun j => s.2.2 (40 + j)) (s.2.2 2) (s.2.2 1 - s.2.2 2) ∨ ∃ n, n < eN E ∧ a ∈ (pWork E n (s.1 n)).2 := by
  rw [(h.sent hE hp).1, List.mem_append, List.mem_append, mem_wk, or_assoc]
/-- a node's work: what it sends -/
theorem work_cases {n : Nat} {x : pN} (hu : x 0 = 1) (h : a ∈ (pWork E n x).2) : (a = (1, n, 99, x 4, 0, 0) ∧ x 2 = 1) ∨ (eL E (x 4) = n ∧ a ∈ (pLead E n (pFl x)).2) ∨ (eL E (x 4) ≠ n ∧ x 3 = 1 ∧ eL E (x 4) ≠ 99 ∧ a = (5, n, eL E (x 4), x 4, x 6, x 5)) := by
  rw [pWork_eq _ _ _ hu, pFl_hi x (j := 4) (by omega), pFl_hi x (j := 5) (by omega), pFl_hi x (j := 6) (by omega), pFl_hi x (j := 3) (by omega)] at h
  by_cases q : eL E (x 4) = n
  · rw [if_pos q] at h
    rcases List.mem_append.mp h with z | z
    · exact Or.inl (hd_cases z)
    · exact Or.inr (Or.inl ⟨q, z⟩)
  · rw [if_neg q] at h
    rcases List.mem_append.mp h with z | z
    · exact Or.inl (hd_cases z)
    · by_cases w : x 3 = 1 ∧ eL E (x 4) ≠ 99
      · rw [if_pos w] at z
        exact Or.inr (Or.inr ⟨q, w.1, w.2, by simpa using z⟩)
      · rw [if_neg w] at z; cases z
theorem RG.tick (hE : eOk E) (h : RG E e s) (hp : s.2.1 = []) : RG E e (pTick E s) := by
  have ht := h.2.1.tick hE h.1
  have h0 : s.2.2 0 = e := h.2.1.1
  refine ⟨h.1.tick hE, ht, fun n hn => ?_, fun m hm => ?_, (h.sent hE hp).2⟩
  · show pWn E s.1 (eN E) n 4 = e
    have := (work_step (n := n) hE hn (h.2.1.2.1 n hn) h.2.1.2.2.2.1).1.2.1 n hn (h.2.2.1 n hn)
    rw [va_up_self] at this
    unfold pWn
    rw [if_pos hn]
    exact this
  · rcases (h.mem hE hp).mp hm with z | z | ⟨n, hn, z⟩
    · obtain ⟨k, -, -, rfl⟩ := mem_proc _ z
      exact h0
    · obtain ⟨-, k, -, -, rfl⟩ := mem_reqs _ z
      exact h0
    · have h4 := h.2.2.1 n hn
      rcases work_cases (h.2.1.2.1 n hn) z with ⟨rfl, -⟩ | ⟨ql, w⟩ | ⟨-, -, -, rfl⟩
      · exact h4
      · have f4 : pFl (s.1 n) 4 = e := by rw [pFl_hi _ (by omega)]; exact h4
        have l4 : pL3 E n (pFl (s.1 n)) 4 = e := by rw [pL3_ne _ _ _ (by omega) (by omega) (by omega) (by omega) (by omega) (by omega) (by omega)]; exact f4
        rcases lead_cases w with ⟨rfl, -⟩ | ⟨i, rfl⟩ | ⟨k, -, -, hg⟩
        · exact f4
        · exact f4
        · rcases guide_cases hg with ⟨rfl, -⟩ | ⟨g1, -⟩ | ⟨rfl, -⟩
          · exact l4
          · rw [g1]; exact l4
          · exact l4
      · exact h4
end RGJ
