/-! A node's work at a tick. -/
section WORKJ
variable {E : pE} {ep g : Nat} {nd : Nat → pN} {post : List pMsg} {rep : Nat → Nat → Nat} {c n : Nat}
theorem JJ.flush (h : JJ E ep g nd post rep c) (n : Nat) : JJ E ep g (va_up nd n (pFlush (nd n))) post rep c ∧ pFlush (nd n) 1 ≠ 1 := by
  obtain ⟨w0, w1, w2, w3, w4, w5, w6, w7, w8⟩ := h.2.1 n
  by_cases q : nd n 1 = 1
  · have e : pFlush (nd n) = (fun j => if j = 7 then nd n 4 else if j = 8 then nd n 5 else if j = 9 then nd n 6 else if j = 1 then 0 else nd n j) := by rw [pFlush, if_pos q]
    refine ⟨⟨h.1.flush n, nW_up h.2.1 ?_, h.2.2⟩, ?_⟩
    · rw [e]
      refine ⟨w0, w1, w2, w3, w1, w2, w3, fun _ => ⟨rfl, rfl, rfl⟩, fun m hm => ?_⟩
      simp only
      rw [if_neg (by omega), if_neg (by omega), if_neg (by omega), if_neg (by omega), if_neg (by omega), if_neg (by omega), if_neg (by omega), if_neg (by omega)]
      exact w8 m hm
    · rw [e]
      exact Nat.zero_ne_one
  · have e : pFlush (nd n) = nd n := by rw [pFlush, if_neg q]
    rw [e, va_up_id]
    exact ⟨h, q⟩
/-- how many of the first k have heard or are in the set -/
theorem size_meet {x : pN} {s : Nat} : ∀ k, (∀ m, m < k → x (20 + m) = 1 → ¬ s.testBit m = true) → pSize k x + pCount k s ≤ k := by
  intro k
  induction k with
  | zero => intro _; exact Nat.le_refl _
  | succ k ih =>
    intro h
    have := ih (fun m hm => h m (by omega))
    rw [pSize, pCount]
    by_cases q : x (20 + k) = 1
    · have z := h k (by omega) q
      rw [if_pos q, if_neg z]
      omega
    · rw [if_neg q]
      split <;> omega
theorem far_max {x : pN} {self : Nat} : ∀ k, (∀ m, m < k → x (20 + m) = 1 → x (30 + m) ≤ x (30 + pFar k x self)) ∧ x (30 + self) ≤ x (30 + pFar k x self) ∧ (pFar k x self = self ∨ (pFar k x self < k ∧ x (20 + pFar k x self) = 1)) := by
  intro k
  induction k with
  | zero => exact ⟨fun m hm => by omega, Nat.le_refl _, Or.inl rfl⟩
  | succ k ih =>
    obtain ⟨i1, i2, i3⟩ := ih
    rw [pFar]
    by_cases q : x (20 + k) = 1 ∧ x (30 + pFar k x self) < x (30 + k)
    · rw [if_pos q]
      refine ⟨fun m hm hx => ?_, by omega, Or.inr ⟨by omega, q.1⟩⟩
      by_cases z : m = k
      · subst z; exact Nat.le_refl _
      · have := i1 m (by omega) hx
        omega
    · rw [if_neg q]
      refine ⟨fun m hm hx => ?_, i2, i3.imp id (fun z => ⟨by omega, z.2⟩)⟩
      by_cases z : m = k
      · subst z
        rcases Nat.lt_or_ge (x (30 + pFar m x self)) (x (30 + m)) with w | w
        · exact absurd ⟨hx, w⟩ q
        · exact w
      · exact i1 m (by omega) hx
theorem agr_le {x : pN} {s : Nat} : ∀ k, pAgr s k x ≤ 512 ∧ ∀ m, m < k → s.testBit m = true → pAgr s k x ≤ (if x (20 + m) = 1 then x (30 + m) else 0) := by
  intro k
  induction k with
  | zero => exact ⟨Nat.le_refl _, fun m hm => by omega⟩
  | succ k ih =>
    rw [pAgr]
    by_cases q : s.testBit k = true
    · rw [if_pos q]
      refine ⟨by omega, fun m hm hs => ?_⟩
      by_cases z : m = k
      · subst z; exact Nat.min_le_right _ _
      · exact Nat.le_trans (Nat.min_le_left _ _) (ih.2 m (by omega) hs)
    · rw [if_neg q]
      refine ⟨ih.1, fun m hm hs => ?_⟩
      by_cases z : m = k
      · subst z; exact absurd hs q
      · exact ih.2 m (by omega) hs
/-- a ready leader may do what its notes agree on -/
theorem JJ.agreed (hE : eOk E) (h : JJ E ep g nd post rep c) : ∀ m, eK E (nd n 4) m → pAgreed E (nd n) ≤ rep m (nd n 4) := by
  intro m hk
  have hm := hE.lt hk
  have := (agr_le (x := nd n) (s := eM E (nd n 4)) (eN E)).2 m hm hk
  unfold pAgreed
  by_cases q : nd n (20 + m) = 1
  · rw [if_pos q] at this
    have r := ((h.1.1 n).2.2.2.1 m hm q).2.2 hk
    omega
  · rw [if_neg q] at this
    omega
theorem JJ.prep (hE : eOk E) (h : JJ E ep g nd post rep c) (hep : ep < 1000000) (hl : eL E (nd n 4) = n) (hn : n < eN E) (hs : nd n (30 + n) = nd n 6) : JJ E ep g (va_up nd n (pPrep E n (nd n)).1) (post ++ (pPrep E n (nd n)).2) rep c := by
  have nil : JJ E ep g (va_up nd n (nd n)) (post ++ []) rep c := by rw [va_up_id, List.append_nil]; exact h
  unfold pPrep
  by_cases q1 : nd n 10 = 1
  · rw [if_pos q1]; exact nil
  rw [if_neg q1]
  by_cases q2 : pSize (eN E) (nd n) < eQ E
  · rw [if_pos q2]; exact nil
  rw [if_neg q2]
  by_cases q3 : pFar (eN E) (nd n) n = n
  · rw [if_pos q3]
    have hk : eK E (nd n 4) n := hE.lead hl (by have := hE.2.1; omega)
    obtain ⟨f1, f2, f3⟩ := far_max (x := nd n) (self := n) (eN E)
    rw [q3, hs] at f1
    have hrep : rep n (nd n 4) ≤ nd n 6 := by
      rcases (h.1.1 n).2.1 _ (Nat.le_refl _) hk with z | ⟨e2, z1, z2, -⟩
      · exact z
      · omega
    have hquo : ∀ e, (∃ m, eK E e m) → ∃ m, m < eN E ∧ nd n (20 + m) = 1 ∧ eK E e m := by
      intro e ⟨m0, hm0⟩
      refine Classical.byContradiction (fun z => ?_)
      have := size_meet (x := nd n) (s := eM E e) (eN E) (fun m hm hx hb => z ⟨m, hm, hx, hb⟩)
      have hc : pCount (eN E) (eM E e) = eC E := by
        rcases (hE.keep e).1 with w | w
        · unfold eK at hm0
          rw [w] at hm0
          simp at hm0
        · exact w
      have h3 := hE.2.2.2.1
      have h4 := hE.1
      simp only [eQ] at q2
      omega
    have hb : ∀ e, e < nd n 4 → (∃ m, eK E e m) → pNM E nd rep e (nd n 6) := fun e he hne => pReady h.1 hquo f1 hk hrep (nd n 4 - e) e (by omega) (by omega) hne
    have e : ∀ j, j ≠ 10 → j ≠ 11 → (fun j => if j = 10 then 1 else if j = 11 then nd n 6 else nd n j) j = nd n j := fun j h1 h2 => by simp [h1, h2]
    obtain ⟨w0, w1, w2, w3, w4, w5, w6, w7, w8⟩ := h.2.1 n
    simp only [List.append_nil]
    refine ⟨h.1.ready hl hb rfl rfl rfl rfl rfl rfl rfl (fun m => e _ (by omega) (by omega)) (fun m => e _ (by omega) (by omega)), nW_up h.2.1 ⟨⟨w0.1, Nat.le_refl _⟩, w1, w2, w3, w4, w5, w6, w7, fun m hm => ?_⟩, h.2.2⟩
    exact ⟨Nat.le_trans (Nat.le_of_eq (e (30 + m) (by omega) (by omega))) (w8 m hm).1, Nat.le_trans (Nat.le_of_eq (e (40 + m) (by omega) (by omega))) (w8 m hm).2⟩
  · rw [if_neg q3]
    simp only
    rw [va_up_id]
    refine h.add (fun m hm => ?_)
    rcases List.mem_append.mp hm with z | z
    · exact Or.inl z
    · have z : m = (6, n, pFar (eN E) (nd n) n, nd n 4, 0, 0) := by simpa using z
      subst z
      right
      have h4 := h.1.2.2.2.2.1 n
      refine ⟨pIm_plain (by simp) (by simp) (by simp) (by simp) (by simp), h4, ⟨by show 6 < 10; omega, by show nd n 4 < 1000000; omega, fun _ => hn, fun _ _ => ?_, by show 0 ≤ 512; omega, by show 0 ≤ 512; omega⟩, (fun z => by rcases z with z | z <;> cases z), (fun z => by rcases z with z | z <;> cases z)⟩
      rcases (far_max (x := nd n) (self := n) (eN E)).2.2 with w | w
      · exact absurd w q3
      · exact w.1
theorem JJ.does (hE : eOk E) (h : JJ E ep g nd post rep c) (hep : ep < 1000000) (hg : g ≤ 512) (hl : eL E (nd n 4) = n) (hn : n < eN E) : ∃ c', c ≤ c' ∧ JJ E ep g (va_up nd n (pDo E n (nd n)).1) (post ++ (pDo E n (nd n)).2) rep c' := by
  unfold pDo
  by_cases q : nd n 10 = 1
  · rw [if_pos q]
    have hk : eK E (nd n 4) n := hE.lead hl (by have := hE.2.1; omega)
    have ha := h.agreed (n := n) hE
    obtain ⟨w0, w1, w2, w3, w4, w5, w6, w7, w8⟩ := h.2.1 n
    have hc := (h.1.1 n).2.2.2.2.2.1
    have h4 := h.1.2.2.2.2.1 n
    generalize hx : pAgreed E (nd n) = a at *
    refine ⟨max c a, by omega, ?_⟩
    have e : ∀ j, j ≠ 5 → j ≠ 1 → (fun j => if j = 5 then max (nd n 5) (min a (nd n 6)) else if j = 1 then (if nd n 5 < min a (nd n 6) then 1 else nd n 1) else nd n j) j = nd n j := fun j h1 h2 => by simp [h1, h2]
    have h2 : JJ E ep g (va_up nd n (fun j => if j = 5 then max (nd n 5) (min a (nd n 6)) else if j = 1 then (if nd n 5 < min a (nd n 6) then 1 else nd n 1) else nd n j)) post rep (max c a) := by
      refine ⟨h.1.done hk ha rfl ?_ rfl rfl rfl rfl rfl rfl (fun m => e _ (by omega) (by omega)) (fun m => e _ (by omega) (by omega)), nW_up h.2.1 ⟨w0, ?_, ?_, w3, w4, w5, w6, fun z => ?_, fun m hm => ?_⟩, h.2.2⟩
      · show max (nd n 5) (min a (nd n 6)) ≤ max c a
        omega
      · show max (nd n 5) (min a (nd n 6)) ≤ nd n 6
        omega
      · show nd n 6 ≤ max (nd n 5) (min a (nd n 6)) + 8
        omega
      · have z : ¬ (if nd n 5 < min a (nd n 6) then 1 else nd n 1) = 1 := z
        show nd n 7 = nd n 4 ∧ nd n 8 = max (nd n 5) (min a (nd n 6)) ∧ nd n 9 = nd n 6
        by_cases y : nd n 5 < min a (nd n 6)
        · rw [if_pos y] at z; exact absurd rfl z
        · rw [if_neg y] at z
          obtain ⟨v1, v2, v3⟩ := w7 z
          exact ⟨v1, by omega, v3⟩
      · exact ⟨Nat.le_trans (Nat.le_of_eq (e (30 + m) (by omega) (by omega))) (w8 m hm).1, Nat.le_trans (Nat.le_of_eq (e (40 + m) (by omega) (by omega))) (w8 m hm).2⟩
    refine h2.add (fun m hm => ?_)
    rcases List.mem_append.mp hm with z | z
    · exact Or.inl z
    · right
      obtain ⟨i, hi, rfl⟩ := List.mem_map.mp z
      have hi := List.mem_range.mp hi
      refine ⟨⟨(fun z => by cases z), (fun z => by cases z), (fun z => by rcases z with z | z <;> cases z), fun _ => ?_⟩, h4, ⟨?_, ?_, (fun z => by rcases z with z | z | z <;> cases z), fun _ z => absurd rfl z, ?_, ?_⟩, (fun z => by rcases z with z | z <;> cases z), fun _ => ?_⟩
      · show nd n 5 + i < max c a
        omega
      · show 3 < 10
        omega
      · show nd n 4 < 1000000
        omega
      · show nd n 5 + i ≤ 512
        omega
      · show 0 ≤ 512
        omega
      · show nd n 5 + i < g
        omega
  · rw [if_neg q]
    refine ⟨c, Nat.le_refl _, ?_⟩
    simp only [List.append_nil]
    rw [va_up_id]
    exact h
theorem JJ.guides (hE : eOk E) (h : JJ E ep g nd post rep c) (hep : ep < 1000000) (hg : g ≤ 512) (hl : eL E (nd n 4) = n) (hn : n < eN E) : JJ E ep g nd (post ++ (List.range (eN E)).flatMap (fun m => if m = n then [] else pGuide E n (nd n) m)) rep c := by
  refine h.add (fun a ha => ?_)
  rcases List.mem_append.mp ha with z | z
  · exact Or.inl z
  right
  obtain ⟨m, hm, hz⟩ := List.mem_flatMap.mp z
  have hm := List.mem_range.mp hm
  by_cases qn : m = n
  · rw [if_pos qn] at hz; cases hz
  rw [if_neg qn] at hz
  obtain ⟨w0, w1, w2, w3, w4, w5, w6, w7, w8⟩ := h.2.1 n
  have hc := (h.1.1 n).2.2.2.2.2.1
  have h4 := h.1.2.2.2.2.1 n
  have hk : eK E (nd n 4) n := hE.lead hl (by have := hE.2.1; omega)
  unfold pGuide at hz
  by_cases q1 : nd n (20 + m) ≠ 1
  · rw [if_pos q1] at hz
    have hz : a = (4, n, m, nd n 4, 0, 0) := by simpa using hz
    subst hz
    exact ⟨pIm_plain (by simp) (by simp) (by simp) (by simp) (by simp), h4, ⟨by show 4 < 10; omega, by show nd n 4 < 1000000; omega, (fun z => by rcases z with z | z | z <;> cases z), fun _ _ => hm, by show 0 ≤ 512; omega, by show 0 ≤ 512; omega⟩, (fun z => by rcases z with z | z <;> cases z), (fun z => by rcases z with z | z <;> cases z)⟩
  rw [if_neg q1] at hz
  by_cases q2 : nd n 10 = 1 ∧ eKb E (nd n 4) m
  · rw [if_pos q2] at hz
    by_cases q3 : nd n (30 + m) < nd n 6 ∨ nd n (40 + m) < nd n 5
    · rw [if_pos q3] at hz
      have hz : a = (if nd n (30 + m) + 8 < nd n 6 then 8 else 7, n, m, nd n 4, nd n 6, nd n 5) := by simpa using hz
      have hk7 : a.1 = 7 ∨ a.1 = 8 := by
        rw [hz]
        simp only
        split
        · exact Or.inr rfl
        · exact Or.inl rfl
      have he : a.2 = (n, m, nd n 4, nd n 6, nd n 5) := by rw [hz]
      unfold pIm mW mOk
      rw [he]
      refine ⟨⟨fun z => by omega, fun z => by omega, fun _ => hc, fun z => by omega⟩, h4, ⟨by omega, by show nd n 4 < 1000000; omega, fun z => by omega, fun _ _ => hm, by show nd n 6 ≤ 512; omega, by show nd n 5 ≤ 512; omega⟩, fun _ => ⟨w1, w2, w3⟩, fun z => by omega⟩
    · rw [if_neg q3] at hz; cases hz
  rw [if_neg q2] at hz
  by_cases q4 : nd n 10 = 1 ∧ 0 < nd n (30 + m) ∧ nd n 11 ≤ pAgreed E (nd n)
  · rw [if_pos q4] at hz
    have hz : a = (9, n, m, nd n 4, 0, 0) := by simpa using hz
    subst hz
    have hnk : ¬ eK E (nd n 4) m := fun z => q2 ⟨q4.1, z⟩
    refine ⟨⟨(fun z => by cases z), fun _ => ⟨⟨nd n 11, fun k hk => ?_, fun e' he hne => ?_⟩, hnk, n, hk⟩, (fun z => by rcases z with z | z <;> cases z), (fun z => by cases z)⟩, h4, ⟨by show 9 < 10; omega, by show nd n 4 < 1000000; omega, (fun z => by rcases z with z | z | z <;> cases z), fun _ _ => hm, by show 0 ≤ 512; omega, by show 0 ≤ 512; omega⟩, (fun z => by rcases z with z | z <;> cases z), (fun z => by rcases z with z | z <;> cases z)⟩
    · exact Nat.le_trans q4.2.2 (h.agreed hE k hk)
    · exact ((h.1.1 n).2.2.2.2.1 q4.1).2.2 e' he hne
  · rw [if_neg q4] at hz; cases hz
end WORKJ
