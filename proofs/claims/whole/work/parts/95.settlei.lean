/-! What a message can do to a node; settle's own invariant. -/
def pDrop (x : pN) : pN := fun j => if j = 5 ∨ j = 6 then 0 else if j = 1 ∨ j = 3 then 1 else x j
def hC (E : pE) (n : Nat) (x : pN) (m : pMsg) (x' : pN) (r : List pMsg) : Prop :=
  (x' = x ∧ r = [] ∧ m.1 ≠ 0 ∧ (m.2.2.2.1 = x 4 → m.1 = 2 ∨ m.1 = 1 ∨ m.1 = 3 ∨ 10 ≤ m.1)) ∨ (m.1 = 0 ∧ x' = pHearMap m.2.2.2.1 x ∧ r = []) ∨
  (m.2.2.2.1 = x 4 ∧ m.1 = 2 ∧ eL E (x 4) = n ∧ x 10 = 1 ∧ pRemembers x m.2.2.2.2.1 = true ∧ x' = x ∧ r = [pAns n x m.2.2.2.2.1]) ∨
  (m.2.2.2.1 = x 4 ∧ m.1 = 2 ∧ eL E (x 4) = n ∧ x 10 = 1 ∧ pRemembers x m.2.2.2.2.1 = false ∧ x' = pAppend x m.2.2.2.2.1 ∧ r = []) ∨
  (m.2.2.2.1 = x 4 ∧ m.1 = 4 ∧ x' = pu x 3 1 ∧ r = []) ∨
  (m.2.2.2.1 = x 4 ∧ m.1 = 5 ∧ x' = pNote x m.2.1 m.2.2.2.2.1 m.2.2.2.2.2 ∧ r = []) ∨
  (m.2.2.2.1 = x 4 ∧ m.1 = 6 ∧ x' = pu x 3 1 ∧ r = [(8, n, m.2.1, x 4, x 6, x 5)]) ∨
  (m.2.2.2.1 = x 4 ∧ m.1 = 7 ∧ x' = pFollow false m.2.2.2.2.2 m.2.2.2.2.1 x ∧ r = []) ∨
  (m.2.2.2.1 = x 4 ∧ m.1 = 8 ∧ x' = pFollow true m.2.2.2.2.2 m.2.2.2.2.1 x ∧ r = []) ∨
  (m.2.2.2.1 = x 4 ∧ m.1 = 9 ∧ x' = pDrop x ∧ r = [])
theorem hear_cases (E : pE) (n : Nat) (x : pN) (m : pMsg) : hC E n x m (pHear E n x m).1 (pHear E n x m).2 := by
  unfold pHear
  by_cases q0 : m.1 = 0
  · rw [if_pos q0]
    exact Or.inr (Or.inl ⟨q0, rfl, rfl⟩)
  rw [if_neg q0]
  by_cases qe : m.2.2.2.1 ≠ x 4
  · rw [if_pos qe]
    exact Or.inl ⟨rfl, rfl, q0, fun z => absurd z qe⟩
  rw [if_neg qe]
  have qe : m.2.2.2.1 = x 4 := Classical.byContradiction qe
  by_cases q2 : m.1 = 2
  · rw [if_pos q2]
    by_cases ql : eL E (x 4) = n ∧ x 10 = 1
    · rw [if_pos ql]
      cases qr : pRemembers x m.2.2.2.2.1 with
      | true =>
        rw [if_pos rfl]
        exact Or.inr (Or.inr (Or.inl ⟨qe, q2, ql.1, ql.2, qr, rfl, rfl⟩))
      | false =>
        rw [if_neg (by decide)]
        exact Or.inr (Or.inr (Or.inr (Or.inl ⟨qe, q2, ql.1, ql.2, qr, rfl, rfl⟩)))
    · rw [if_neg ql]
      exact Or.inl ⟨rfl, rfl, q0, fun _ => Or.inl q2⟩
  rw [if_neg q2]
  by_cases q4 : m.1 = 4
  · rw [if_pos q4]
    exact Or.inr (Or.inr (Or.inr (Or.inr (Or.inl ⟨qe, q4, rfl, rfl⟩))))
  rw [if_neg q4]
  by_cases q5 : m.1 = 5
  · rw [if_pos q5]
    exact Or.inr (Or.inr (Or.inr (Or.inr (Or.inr (Or.inl ⟨qe, q5, rfl, rfl⟩)))))
  rw [if_neg q5]
  by_cases q6 : m.1 = 6
  · rw [if_pos q6]
    exact Or.inr (Or.inr (Or.inr (Or.inr (Or.inr (Or.inr (Or.inl ⟨qe, q6, rfl, rfl⟩))))))
  rw [if_neg q6]
  by_cases q7 : m.1 = 7
  · rw [if_pos q7]
    exact Or.inr (Or.inr (Or.inr (Or.inr (Or.inr (Or.inr (Or.inr (Or.inl ⟨qe, q7, rfl, rfl⟩)))))))
  rw [if_neg q7]
  by_cases q8 : m.1 = 8
  · rw [if_pos q8]
    exact Or.inr (Or.inr (Or.inr (Or.inr (Or.inr (Or.inr (Or.inr (Or.inr (Or.inl ⟨qe, q8, rfl, rfl⟩))))))))
  rw [if_neg q8]
  by_cases q9 : m.1 = 9
  · rw [if_pos q9]
    exact Or.inr (Or.inr (Or.inr (Or.inr (Or.inr (Or.inr (Or.inr (Or.inr (Or.inr ⟨qe, q9, rfl, rfl⟩))))))))
  rw [if_neg q9]
  exact Or.inl ⟨rfl, rfl, q0, fun _ => by omega⟩
/-- the changes, field by field -/
theorem pAppend_ne (x : pN) (i : Nat) {j : Nat} (h : j ≠ 6) (h1 : j ≠ 1) : pAppend x i j = x j := by
  unfold pAppend
  split
  · simp only
    rw [if_neg h, if_neg h1]
  · rfl
theorem pAppend_6 (x : pN) (i : Nat) : x 6 ≤ pAppend x i 6 := by
  unfold pAppend
  split
  · simp only
    rw [if_pos trivial]
    omega
  · exact Nat.le_refl _
theorem pNote_ne (x : pN) (m b d : Nat) {j : Nat} (h1 : j ≠ 20 + m) (h2 : j ≠ 30 + m) (h3 : j ≠ 40 + m) : pNote x m b d j = x j := by
  unfold pNote
  rw [if_neg h1, if_neg h2, if_neg h3]
theorem pFollow_ne (w : Bool) (d b : Nat) (x : pN) {j : Nat} (h5 : j ≠ 5) (h6 : j ≠ 6) (h1 : j ≠ 1) (h3 : j ≠ 3) : pFollow w d b x j = x j := by
  unfold pFollow
  rw [if_neg h5, if_neg h6, if_neg h1, if_neg h3]
theorem pDrop_ne (x : pN) {j : Nat} (h5 : j ≠ 5) (h6 : j ≠ 6) (h1 : j ≠ 1) (h3 : j ≠ 3) : pDrop x j = x j := by
  unfold pDrop
  rw [if_neg (by omega), if_neg (by omega)]
theorem fol_ge {w : Bool} {k b d e : Nat} (h1 : k ≤ e) (h2 : e ≤ k + 8) (h3 : d ≤ b) (h4 : b ≤ d + 8) : k ≤ pFolD w k e d b := by
  unfold pFolD
  by_cases q : e + 8 < b
  · rw [if_pos q]
    cases w
    · simp
    · simp; omega
  · rw [if_neg q]
    omega
/-- the leader of e is in e and ready -/
def sR (E : pE) (e : Nat) (nd : Nat → pN) : Prop := nd (eL E e) 4 = e ∧ nd (eL E e) 10 = 1
/-- what m's report in e (end b, done d) says of m now -/
def sRel (E : pE) (e : Nat) (nd : Nat → pN) (m b d : Nat) : Prop := nd m 4 = e ∧ (eK E e m → b ≤ nd m 6 ∧ d ≤ nd m 5) ∧ (¬ eK E e m → nd m 6 ≤ b) ∧ (¬ sR E e nd → b = nd m 6)
def sM (E : pE) (e : Nat) (nd : Nat → pN) (m : pMsg) : Prop := m.2.2.2.1 = e → (m.1 = 1 → nd m.2.1 4 = e) ∧ (m.1 = 5 → m.2.1 ≠ eL E e ∧ m.2.2.1 = eL E e ∧ sRel E e nd m.2.1 m.2.2.2.2.1 m.2.2.2.2.2) ∧ (m.1 = 6 → m.2.1 = eL E e ∧ m.2.2.1 ≠ eL E e) ∧
  (m.1 = 7 → sR E e nd ∧ eK E e m.2.2.1 ∧ m.2.2.1 ≠ eL E e) ∧ (m.1 = 8 → m.2.2.1 = eL E e ∨ (sR E e nd ∧ eK E e m.2.2.1 ∧ m.2.2.1 ≠ eL E e)) ∧ (m.1 = 9 → sR E e nd ∧ ¬ eK E e m.2.2.1)
def sN (E : pE) (e : Nat) (nd : Nat → pN) : Prop := nd (eL E e) 4 = e → ∀ m, m < eN E → m ≠ eL E e → nd (eL E e) (20 + m) = 1 → sRel E e nd m (nd (eL E e) (30 + m)) (nd (eL E e) (40 + m))
def IS (E : pE) (e : Nat) (s : pSt) : Prop := s.2.2 0 = e ∧ (∀ n, n < eN E → s.1 n 0 = 1) ∧ (∀ n, n < eN E → s.2.2 (20 + n) = e → s.1 n 4 = e) ∧ sN E e s.1 ∧ ∀ m ∈ s.2.1, sM E e s.1 m
/-- a step of the nodes that the reports of e outlive -/
def sStep (E : pE) (e : Nat) (nd nd' : Nat → pN) : Prop := (sR E e nd → sR E e nd') ∧ (∀ m, m < eN E → nd m 4 = e → nd' m 4 = e) ∧ ∀ m, m < eN E → m ≠ eL E e → nd m 4 = e → (eK E e m → nd m 6 ≤ nd' m 6 ∧ nd m 5 ≤ nd' m 5) ∧ (¬ eK E e m → nd' m 6 ≤ nd m 6) ∧ (¬ sR E e nd' → nd' m 6 = nd m 6)
section ISJ
variable {E : pE} {e : Nat} {nd nd' : Nat → pN} {post : List pMsg} {y : pN} {n : Nat} {m : pMsg}
theorem sRel.step {k b d : Nat} (h : sRel E e nd k b d) (hs : sStep E e nd nd') (hk : k < eN E) (hl : k ≠ eL E e) : sRel E e nd' k b d := by
  obtain ⟨h1, h2, h3, h4⟩ := h
  obtain ⟨s1, s2, s3⟩ := hs
  obtain ⟨t1, t2, t3⟩ := s3 k hk hl h1
  refine ⟨s2 k hk h1, fun q => ?_, fun q => ?_, fun q => ?_⟩
  · have := h2 q; have := t1 q; omega
  · have := h3 q; have := t2 q; omega
  · rw [t3 q]
    exact h4 (fun z => q (s1 z))
theorem sM.step (h : sM E e nd m) (hs : sStep E e nd nd') (hm : mOk E m) : sM E e nd' m := by
  intro he
  obtain ⟨h1, h2, h3, h4, h5, h6⟩ := h he
  refine ⟨fun q => hs.2.1 _ (hm.2.2.1 (Or.inl q)) (h1 q), fun q => ⟨(h2 q).1, (h2 q).2.1, (h2 q).2.2.step hs (hm.2.2.1 (Or.inr (Or.inl q))) (h2 q).1⟩, h3, fun q => ⟨hs.1 (h4 q).1, (h4 q).2⟩, fun q => (h5 q).imp id (fun z => ⟨hs.1 z.1, z.2⟩), fun q => ⟨hs.1 (h6 q).1, (h6 q).2⟩⟩
/-- notes that did not change -/
theorem sN.step (h : sN E e nd) (hs : sStep E e nd nd') (h4 : nd' (eL E e) 4 = e → nd (eL E e) 4 = e) (hx : ∀ k, k < eN E → k ≠ eL E e → nd' (eL E e) 4 = e → nd' (eL E e) (20 + k) = 1 → nd (eL E e) (20 + k) = 1 ∧ nd' (eL E e) (30 + k) = nd (eL E e) (30 + k) ∧ nd' (eL E e) (40 + k) = nd (eL E e) (40 + k)) : sN E e nd' := by
  intro q k hk hl hh
  obtain ⟨a, b, c⟩ := hx k hk hl q hh
  rw [b, c]
  exact (h (h4 q) k hk hl a).step hs hk hl
theorem IS.sub {s : pSt} {p : List pMsg} (h : IS E e s) (hp : ∀ m ∈ p, m ∈ s.2.1) : IS E e (s.1, p, s.2.2) :=
  ⟨h.1, h.2.1, h.2.2.1, h.2.2.2.1, fun m hm => h.2.2.2.2 m (hp m hm)⟩
/-- one node's change as a step -/
theorem sStep.one {x' : pN} (h10 : n = eL E e → sR E e nd → x' 4 = e ∧ x' 10 = 1) (h4 : n < eN E → nd n 4 = e → x' 4 = e) (hx : n < eN E → n ≠ eL E e → nd n 4 = e → (eK E e n → nd n 6 ≤ x' 6 ∧ nd n 5 ≤ x' 5) ∧ (¬ eK E e n → x' 6 ≤ nd n 6) ∧ (¬ sR E e nd → x' 6 = nd n 6)) : sStep E e nd (va_up nd n x') := by
  have hr : sR E e nd → sR E e (va_up nd n x') := fun z => by
    unfold sR
    by_cases q : eL E e = n
    · rw [q, va_up_self]
      exact h10 q.symm z
    · rw [va_up_ne _ _ q]
      exact z
  refine ⟨hr, fun k hk z => ?_, fun k hk hl z => ?_⟩
  · by_cases q : k = n
    · subst q; rw [va_up_self]; exact h4 hk z
    · rw [va_up_ne _ _ q]; exact z
  · by_cases q : k = n
    · subst q
      rw [va_up_self]
      obtain ⟨a, b, c⟩ := hx hk hl z
      exact ⟨a, b, fun w => c (fun v => w (hr v))⟩
    · rw [va_up_ne _ _ q]
      exact ⟨fun _ => ⟨Nat.le_refl _, Nat.le_refl _⟩, fun _ => Nat.le_refl _, fun _ => rfl⟩
end ISJ
